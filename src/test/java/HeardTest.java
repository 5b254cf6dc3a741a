/** Promises 11, 12, 15: hear, forget, sessions. */
public final class HeardTest {
    private static final int N = HeardSecond.NONE, U = HeardSecond.UNKNOWN, O = HeardSecond.OUTSIDE, S = HeardSecond.STATE, F = HeardSecond.FULL;
    private static final Checks C = new Checks();

    public static void main(String[] args) {
        hear();
        hearWithoutCourt();
        hearFull();
        forget();
        sessions();
        sessionsChangeNothing();
        sessionsSeeds();
        sessionsRefused();
        C.end();
    }

    private static void hear() {
        HeardSecond x = Checks.courtOf("s0,s1,s0;9");
        long before = x.digest();
        C.refused("hear(-1, 0)", x, before, x.hear(-1, 0), O);
        C.refused("hear(9, 0)", x, before, x.hear(9, 0), O);
        C.refused("hear(min, 0)", x, before, x.hear(Integer.MIN_VALUE, 0), O);
        C.refused("hear(max, 0)", x, before, x.hear(Integer.MAX_VALUE, 0), O);
        C.refused("hear(0, 3)", x, before, x.hear(0, 3), U);
        C.refused("hear(0, -2)", x, before, x.hear(0, -2), U);
        C.refused("hear(0, min)", x, before, x.hear(0, Integer.MIN_VALUE), U);
        C.refused("the WALL", x, before, x.hear(0, 5), U);
        C.refused("OUTSIDE ahead of UNKNOWN", x, before, x.hear(9, 3), O);
        C.due("hear(0, NONE)", x.hear(0, N), 1);
        C.due("hear(8, 2)", x.hear(8, 2), 2);
        C.due("the same again", x.hear(8, 2), 3);
        C.due("what can't be so", x.hear(0, 1), 4);
        C.due("count(9)", x.count(9), 4);
        x.breath(1);
        x.breath(6);
        C.due("it stays", x.count(9), 4);
        HeardSecond y = Checks.courtOf("s0,s1;1");
        y.hear(1, 0);
        y.breath(0);
        C.due("it stays behind the end of a case", y.count(9), 1);
    }

    private static void hearWithoutCourt() {
        HeardSecond x = new HeardSecond();
        C.due("no court: hear(0, 0)", x.hear(0, 0), U);
        C.due("no court: hear(9, NONE)", x.hear(9, N), O);
        C.due("no court: hear(0, NONE)", x.hear(0, N), 1);
        C.due("no court: forget()", x.forget(), 1);
        C.due("no court: count(9)", x.count(9), 0);
    }

    private static void hearFull() {
        HeardSecond x = Checks.courtOf("s0,s1;9");
        for (int told = 1; told <= 8; told++) {
            C.due("hear " + told, x.hear(told, told % 2), told);
        }
        long before = x.digest();
        C.refused("a 9th", x, before, x.hear(0, 0), F);
        C.refused("OUTSIDE ahead of FULL", x, before, x.hear(9, 0), O);
        C.refused("UNKNOWN ahead of FULL", x, before, x.hear(0, 2), U);
        C.due("forget() of 8", x.forget(), 8);
        C.due("hear() behind it", x.hear(0, 0), 1);
    }

    private static void forget() {
        HeardSecond x = Checks.courtOf("s0,s1;9");
        C.due("forget() of none", x.forget(), 0);
        x.hear(0, 1);
        C.due("heard so: no rows", x.rows(0, 0), 0);
        C.due("forget() of 1", x.forget(), 1);
        C.due("forgotten: the row of no words", x.rows(0, 0), 1);
        C.due("count(9)", x.count(9), 0);
        C.due("forget() again", x.forget(), 0);
    }

    private static void sessions() {
        C.due("the least seed, one breath", Checks.courtOf("s0,s1;9").sessions(1, 0, 2), next(next(0)));
        C.due("the greatest seed", Checks.courtOf("s0,s1;9").sessions(1, Integer.MAX_VALUE, 2), next(next(Integer.MAX_VALUE)));
        for (int seed = 0; seed < 200; seed++) {
            silentCases(seed);
        }
        int seed = seedOfDraws(0, 1, 1, 0, 1, 1);
        HeardSecond x = Checks.courtOf("s0,s1;1");
        C.due("0, then 1, then silence: cases", x.sessions(3, seed, 0), 1);
        C.due("0, then 1, then silence: SIDE 0 wins", x.sessions(3, seed, 1), 0);
        HeardSecond y = Checks.courtOf("s1,s0;1");
        C.due("the other SIDES: cases", y.sessions(3, seed, 0), 1);
        C.due("the other SIDES: SIDE 0 wins", y.sessions(3, seed, 1), 1);
        C.due("ahead of the silence", y.sessions(2, seed, 0), 0);
    }

    /** With MUTE ones alone every breath is silence. */
    private static void silentCases(int seed) {
        C.due("60 breaths of silence", Checks.courtOf("m0,m1;1").sessions(60, seed, 0), 60);
        C.due("59 breaths, patience 7", Checks.courtOf("m0,m1,m0;7").sessions(59, seed, 0), 8);
        C.due("nobody wins", Checks.courtOf("m0,m1;1").sessions(60, seed, 1), 0);
    }

    private static int next(long seed) {
        return (int) ((1103515245L * seed + 12345L) & 0x7fffffffL);
    }

    /** A seed whose first draws of 3 are 0 just where this tells 0. */
    private static int seedOfDraws(int... draws) {
        for (int seed = 0; seed < 1000000; seed++) {
            int drawn = seed;
            boolean fits = true;
            for (int draw : draws) {
                drawn = next(drawn);
                fits &= (drawn / 65536 % 3 == 0) == (draw == 0);
            }
            if (fits) {
                return seed;
            }
        }
        throw new IllegalStateException("no such seed");
    }

    private static void sessionsChangeNothing() {
        HeardSecond x = Checks.spoken("s1,s0;2", 0, 1, 0);
        x.breath(0);
        long before = x.digest();
        int seed = seedOfDraws(1, 1);
        C.due("it goes on from how all is: cases", x.sessions(1, seed, 0), 1);
        C.due("it goes on from how all is: wins", x.sessions(1, seed, 1), 0);
        C.due("nothing is changed by it", x.digest(), before);
        x.breath(0);
        C.due("cases so far", x.count(5), 1);
        C.due("those do not count", x.sessions(2, seedOfDraws(1, 1, 1, 1), 0), 1);
        HeardSecond y = Checks.spoken("s0,s1;1", 1, 0);
        C.due("SIDE 0 is believed: it wins one", y.sessions(2, seedOfDraws(1, 1, 1, 1), 1), 1);
        C.due("of two cases", y.sessions(2, seedOfDraws(1, 1, 1, 1), 0), 2);
        y.breath(0);
        C.due("a win so far does not count", y.sessions(1, seedOfDraws(1, 1), 1), 0);
        HeardSecond z = Checks.spoken("s0,s1;1", 1, 0);
        z.breath(3);
        C.due("those who are OUT stay so: silence at once", z.sessions(1, seedOfDraws(0, 0), 0), 1);
    }

    private static void sessionsSeeds() {
        HeardSecond x = Checks.courtOf("s0,s1,s0,s1,s0;9");
        for (int seed = 0; seed < 50; seed++) {
            int breaths = 1 + seed;
            int due = seed;
            for (int draw = 0; draw < 5 * breaths; draw++) {
                due = next(due);
            }
            C.due("SEED behind " + breaths + " breaths", x.sessions(breaths, seed, 2), due);
        }
        int first = x.sessions(3, 17, 2);
        C.due("the SEED then goes on", x.sessions(4, first, 2), x.sessions(7, 17, 2));
        x.breath(31);
        C.due("those who are OUT draw, too", x.sessions(7, 17, 2), x.sessions(4, first, 2));
    }

    private static void sessionsRefused() {
        HeardSecond none = new HeardSecond();
        C.due("no court: sessions(0, 0, 0)", none.sessions(0, 0, 0), O);
        C.due("no court: sessions(1, -1, 0)", none.sessions(1, -1, 0), O);
        C.due("no court: sessions(1, 0, 3)", none.sessions(1, 0, 3), O);
        C.due("no court: sessions(1, 0, 2)", none.sessions(1, 0, 2), S);
        HeardSecond x = Checks.courtOf("s0,s1;9");
        long before = x.digest();
        C.refused("sessions(0, 1, 0)", x, before, x.sessions(0, 1, 0), O);
        C.refused("sessions(61, 1, 0)", x, before, x.sessions(61, 1, 0), O);
        C.refused("sessions(-1, 1, 0)", x, before, x.sessions(-1, 1, 0), O);
        C.refused("sessions(max, 1, 0)", x, before, x.sessions(Integer.MAX_VALUE, 1, 0), O);
        C.refused("sessions(1, -1, 0)", x, before, x.sessions(1, -1, 0), O);
        C.refused("sessions(1, min, 0)", x, before, x.sessions(1, Integer.MIN_VALUE, 0), O);
        C.refused("sessions(1, 1, -1)", x, before, x.sessions(1, 1, -1), O);
        C.refused("sessions(1, 1, 3)", x, before, x.sessions(1, 1, 3), O);
    }
}
