/** Promises 11, 12, 15 and the terms they stand on, edge by edge: each told by the document's own words. */
public final class HeardEdgesTest {
    private static final int N = HeardSecond.NONE, U = HeardSecond.UNKNOWN, O = HeardSecond.OUTSIDE;
    private static final int S = HeardSecond.STATE, F = HeardSecond.FULL;
    private static final Checks C = new Checks();

    public static void main(String[] args) {
        heardAtMost();
        heardWords();
        heardFromNow();
        hearRefused();
        hearWithoutCourt();
        forget();
        sessionsBreaths();
        sessionsBySeatNumber();
        sessionsWins();
        sessionsDraws();
        sessionsAsTheyWouldBe();
        sessionsRefused();
        C.end();
    }

    private static void heardAtMost() {
        C.sentence("HEARD (8 at most)");
        HeardSecond x = Checks.courtOf("s0,s1;9");
        for (int told = 1; told <= 8; told++) {
            C.due("hear()", x.hear(2, 0), told);
            C.due("count(9)", x.count(9), told);
        }
        C.refused("the 9th", x, x.digest(), x.hear(2, 0), F);
        C.refused("another 9th", x, x.digest(), x.hear(8, N), F);
        C.due("the 9th was not told: ROWS of 2", x.rows(2, 0), 1);
        C.due("forget()", x.forget(), 8);
        C.due("ROWS of 2 then", x.rows(2, 0), 2);
        for (int told = 1; told <= 8; told++) {
            C.due("hear() behind forget()", x.hear(told, 1), told);
        }
        C.due("the 8th is kept", x.rows(6, 0), 0);
        C.refused("the 9th behind forget()", x, x.digest(), x.hear(0, 0), F);
        HeardSecond last = Checks.courtOf("s0,s1;9");
        for (int told = 1; told <= 7; told++) {
            last.hear(8, N);
        }
        C.due("ROWS of 2 with 7 that do not matter", last.rows(2, 0), 2);
        C.due("the 8th matters", last.hear(2, 1), 8);
        C.due("ROWS of 2", last.rows(2, 0), 1);
    }

    private static void heardWords() {
        C.sentence("that behind so many WORDS from now (0 to 8; 0 is now;");
        for (int words = 0; words <= 8; words++) {
            HeardSecond x = Checks.courtOf("s0,s1,s0,s1,s0;9");
            C.due("hear(" + words + ", NONE)", x.hear(words, N), 1);
            C.due("hear(" + words + ", 0)", x.hear(words, 0), 2);
            C.due("hear(" + words + ", 4)", x.hear(words, 4), 3);
        }
        HeardSecond x = Checks.spoken("s0,s1;9", 0, 1);
        x.hear(0, 1);
        C.due("so it is now", x.rows(0, 0), 1);
        x.hear(0, N);
        C.due("so it is not now", x.rows(0, 0), 0);
        C.sentence("a SEAT was BELIEVED, or nobody.");
        HeardSecond seat = Checks.spoken("s0,e1,s0;9", 0);
        seat.hear(1, 2);
        C.due("SEAT 2: ROWS", seat.rows(1, 1), 4);
        seat.forget();
        seat.hear(1, N);
        C.due("nobody: ROWS", seat.rows(1, 1), 32);
    }

    private static void heardFromNow() {
        C.sentence("counted from how all is when it is asked, not when it was told)");
        HeardSecond x = Checks.courtOf("s0,s1,s0;9");
        x.hear(1, 1);
        C.due("behind the first WORD nobody is BELIEVED", x.rows(1, 0), 0);
        x.breath(1);
        C.due("behind the next it can be so", x.rows(1, 0), 1);
        x.breath(2);
        C.due("it is so, but not by a WORD more", x.rows(1, 0), 0);
        x.breath(1);
        C.due("it can be so once more", x.rows(1, 0), 1);
        HeardSecond now = Checks.courtOf("s0,s1;2");
        now.hear(0, N);
        C.due("now", now.rows(0, 0), 1);
        now.breath(1);
        now.breath(2);
        C.due("another now", now.rows(0, 0), 0);
        now.breath(0);
        now.breath(0);
        C.due("now in the next CASE", now.rows(0, 0), 1);
        C.due("HEARD stays", now.count(9), 1);
    }

    private static void hearRefused() {
        C.sentence("how much was. OUTSIDE: words (0 to 8); UNKNOWN: seat; FULL.");
        HeardSecond x = Checks.courtOf("s0,s1,s0;9");
        refuseWrongOnes(x, 3);
        for (int told = 0; told < 8; told++) {
            x.hear(told, 0);
        }
        refuseWrongOnes(x, 3);
        long before = x.digest();
        C.refused("all is right, but FULL", x, before, x.hear(0, N), F);
        C.refused("all is right, but FULL", x, before, x.hear(8, 2), F);
        C.due("a SEAT of five", Checks.courtOf("s0,s1,s0,s1,s0;9").hear(0, 4), 1);
        C.due("the WALL of five", Checks.courtOf("s0,s1,s0,s1,s0;9").hear(0, 5), U);
        C.due("nobody's bit of five", Checks.courtOf("s0,s1,s0,s1,s0;9").hear(0, 6), U);
    }

    private static void refuseWrongOnes(HeardSecond x, int seats) {
        long before = x.digest();
        for (int words : new int[] {-1, 9, Integer.MIN_VALUE, Integer.MAX_VALUE}) {
            C.refused("hear(" + words + ", 0)", x, before, x.hear(words, 0), O);
            C.refused("hear(" + words + ", NONE)", x, before, x.hear(words, N), O);
            C.refused("hear(" + words + ", " + seats + ")", x, before, x.hear(words, seats), O);
            C.refused("hear(" + words + ", -2)", x, before, x.hear(words, -2), O);
        }
        for (int seat : new int[] {-2, seats, 5, 6, Integer.MIN_VALUE, Integer.MAX_VALUE}) {
            C.refused("hear(0, " + seat + ")", x, before, x.hear(0, seat), U);
            C.refused("hear(8, " + seat + ")", x, before, x.hear(8, seat), U);
        }
    }

    private static void hearWithoutCourt() {
        C.sentence("It was HEARD that a SEAT was BELIEVED (NONE: nobody): how much was.");
        HeardSecond x = new HeardSecond();
        C.due("no COURT: a SEAT", x.hear(0, 0), U);
        C.due("no COURT: OUTSIDE ahead of UNKNOWN", x.hear(9, 0), O);
        for (int told = 1; told <= 8; told++) {
            C.due("no COURT: nobody", x.hear(told, N), told);
        }
        C.due("no COURT: FULL", x.hear(0, N), F);
        C.due("no COURT: UNKNOWN ahead of FULL", x.hear(0, 0), U);
        C.due("no COURT: OUTSIDE ahead of FULL", x.hear(-1, N), O);
        C.due("no COURT: forget()", x.forget(), 8);
    }

    private static void forget() {
        C.sentence("`int forget()`: Nothing was HEARD any more: how much was.");
        C.due("no COURT", new HeardSecond().forget(), 0);
        for (int told = 0; told <= 8; told++) {
            HeardSecond x = Checks.courtOf("s0,s1;9");
            long before = x.digest();
            for (int some = 0; some < told; some++) {
                x.hear(0, 1);
            }
            C.due("ROWS of 0 with " + told, x.rows(0, 0), told == 0 ? 1 : 0);
            C.due("forget() of " + told, x.forget(), told);
            C.due("all is as it was", x.digest(), before);
            C.due("forget() of none", x.forget(), 0);
        }
    }

    // ---- SESSIONS

    private static void sessionsBreaths() {
        C.sentence("SESSIONS: what = 0 how many CASES, 1 how many SIDE 0 wins, 2 the SEED then.");
        for (int breaths = 1; breaths <= 60; breaths++) {
            HeardSecond x = Checks.courtOf("m0,m1;1");
            C.due("each BREATH of " + breaths + " is SILENCE", x.sessions(breaths, 5, 0), breaths);
            C.due("nobody wins", x.sessions(breaths, 5, 1), 0);
            C.due("PATIENCE 9", Checks.courtOf("m0,m1;9").sessions(breaths, 5, 0), breaths / 9);
        }
        C.sentence("so many BREATHS: each SEAT, by number, opens its mouth, if a DRAW of 3 is 0:");
        int[] seeds = {0, 12345, 1406932606, 654583775, 1449466924, 229283573};
        for (int seats = 2; seats <= 5; seats++) {
            HeardSecond x = Checks.courtOf(Checks.courtText("sssss".substring(0, seats), 9));
            C.due("a DRAW for each of " + seats, x.sessions(1, 0, 2), seeds[seats]);
        }
        HeardSecond out = Checks.breathed("s0,m1,w0;9", 5);
        C.due("a DRAW for each who does not count, too", out.sessions(1, 0, 2), seeds[3]);
        HeardSecond x = Checks.courtOf("s0,s1,s0;9");
        C.due("60 BREATHS by 30 and 30", x.sessions(60, 0, 2), x.sessions(30, x.sessions(30, 0, 2), 2));
    }

    /** Behind 12345 come 1406932606 and 654583775: by 65536 21468 and 9988, whose rests by 3 are 0 and 1. */
    private static void sessionsBySeatNumber() {
        C.due("SEAT 0 opens its mouth", Checks.courtOf("s0,m1;1").sessions(1, 12345, 0), 0);
        C.due("SEAT 1 does not", Checks.courtOf("m0,s1;1").sessions(1, 12345, 0), 1);
        for (int seed = 0; seed < 300; seed++) {
            int first = next(seed);
            int second = next(first);
            C.due("SEAT 0 by the first DRAW", Checks.courtOf("s0,m1;1").sessions(1, seed, 0), draw(first) == 0 ? 0 : 1);
            C.due("SEAT 1 by the second", Checks.courtOf("m0,s1;1").sessions(1, seed, 0), draw(second) == 0 ? 0 : 1);
            C.due("those who are OUT do not count", Checks.breathed("s0,s1;1", 3).sessions(1, seed, 0), 1);
            C.due("one or both are no SILENCE", Checks.courtOf("s0,s1;1").sessions(1, seed, 0),
                draw(first) == 0 || draw(second) == 0 ? 0 : 1);
        }
    }

    private static int next(long seed) {
        return (int) (Math.floorMod(1103515245L * seed + 12345L, 1L << 31));
    }

    private static int draw(int seed) {
        return seed / 65536 % 3;
    }

    private static void sessionsWins() {
        C.sentence("how many CASES end, how many of these SIDE 0 wins.");
        HeardSecond won = Checks.spoken("s0,m1,m0,m1,s0;1", 0, 4);
        int silent = silentSeed(5, 2);
        C.due("two CASES end", won.sessions(2, silent, 0), 2);
        C.due("SIDE 0 wins one", won.sessions(2, silent, 1), 1);
        HeardSecond lost = Checks.spoken("s1,m1,m0,m1,s1;1", 0, 4);
        C.due("two CASES end", lost.sessions(2, silent, 0), 2);
        C.due("SIDE 1 wins one, SIDE 0 none", lost.sessions(2, silent, 1), 0);
        HeardSecond both = Checks.courtOf("s0,m1,m0,m1,s0;1");
        C.due("nobody wins", both.sessions(2, silent, 1), 0);
        won.breath(0);
        C.due("a CASE that ended ahead", won.count(6), 1);
        C.due("it is none of these", won.sessions(1, silent, 0), 1);
        C.due("nor is who won it", won.sessions(1, silent, 1), 0);
        HeardSecond ahead = Checks.breathed("s0,s1;1", 0, 2, 1, 0, 1, 2, 0, 2, 1);
        C.cases("lost to both, to SIDE 1, to SIDE 0", ahead, 3, 1, 1);
        C.due("three CASES ahead: one more ends", ahead.sessions(1, silentSeed(2, 1), 0), 1);
        C.due("three CASES ahead: SIDE 0 wins the one", ahead.sessions(1, silentSeed(2, 1), 1), 1);
    }

    /** A seed by which nobody opens its mouth for so many breaths. */
    private static int silentSeed(int seats, int breaths) {
        for (int seed = 0; seed < 1000000; seed++) {
            int drawn = seed;
            boolean silent = true;
            for (int some = 0; some < seats * breaths && silent; some++) {
                drawn = next(drawn);
                silent = draw(drawn) != 0;
            }
            if (silent) {
                return seed;
            }
        }
        throw new IllegalStateException("no such seed");
    }

    private static void sessionsDraws() {
        C.sentence("DRAWS: the next SEED each time: 1103515245 times it and 12345, its rest by 2 to the 31;");
        HeardSecond x = Checks.courtOf("s0,s1;9");
        C.due("the least SEED", x.sessions(1, 0, 2), 1406932606);
        C.due("the next SEED is 2 to the 31 less 1", x.sessions(1, seedBehind(Integer.MAX_VALUE), 2), next(Integer.MAX_VALUE));
        C.due("the next SEED is 0", x.sessions(1, seedBehind(0), 2), 12345);
        C.due("the greatest SEED", x.sessions(1, Integer.MAX_VALUE, 2), next(1043980748));
        C.due("the greatest SEED less 1", x.sessions(1, Integer.MAX_VALUE - 1, 2), next(next(Integer.MAX_VALUE - 1)));
        C.due("a SEED of 2 to the 30", x.sessions(1, 1 << 30, 2), next(next(1 << 30)));
        for (int breaths = 1; breaths <= 60; breaths++) {
            C.due("no SEED is negative", x.sessions(breaths, Integer.MAX_VALUE, 2) < 0 ? 1 : 0, 0);
        }
        C.sentence("then that by 65536 (rounded down), its rest.");
        HeardSecond first = Checks.courtOf("s0,m1;1");
        C.due("12345 by 65536 is 0", first.sessions(1, 0, 0), 0);
        int[] edges = {0, 65535, 65536, 131071, 131072, 196607, 196608, 262143, Integer.MAX_VALUE};
        int[] silences = {0, 0, 1, 1, 1, 1, 0, 0, 1};
        for (int i = 0; i < edges.length; i++) {
            C.due("the next SEED is " + edges[i], first.sessions(1, seedBehind(edges[i]), 0), silences[i]);
        }
    }

    /** The seed whose next one is this: 1103515245 is odd, so each number is the next one of just one. */
    private static int seedBehind(int due) {
        long seed = 0;
        for (int bit = 0; bit < 31; bit++) {
            if ((next(seed) >> bit & 1) != (due >> bit & 1)) {
                seed += 1L << bit;
            }
        }
        return (int) seed;
    }

    private static void sessionsAsTheyWouldBe() {
        C.sentence("SESSIONS by a SEED, as they would be:");
        HeardSecond x = Checks.breathed("s0,s1,e0,f1,w0;3", 1, 2, 12, 0, 0);
        x.hear(1, 1);
        x.image();
        x.letter('s');
        long before = x.digest();
        for (int what = 0; what < 3; what++) {
            x.sessions(60, 7, what);
            C.due("nothing is changed by it", x.digest(), before);
        }
        C.due("the IMAGE neither", x.restore(), 5);
        C.due("restored: nothing is changed by it", x.digest(), before);
        int silent = silentSeed(5, 3);
        C.due("SILENCE goes on from now: one more ends the CASE", x.sessions(1, silent, 0), 1);
        C.due("SIDE 1 wins it", x.sessions(1, silent, 1), 0);
        C.due("the next CASE has the whole PATIENCE", x.sessions(3, silent, 0), 1);
        HeardSecond y = Checks.breathed("s0,s1;2", 2, 1, 0);
        C.due("who is BELIEVED now wins", y.sessions(1, silentSeed(2, 1), 1), 1);
    }

    private static void sessionsRefused() {
        C.sentence("OUTSIDE: breaths (1 to 60), seed (0 at least), what; STATE: no COURT.");
        HeardSecond x = Checks.courtOf("s0,s1;9");
        HeardSecond none = new HeardSecond();
        long before = x.digest();
        long beforeNone = none.digest();
        int[][] wrong = {{0, 0, 0}, {61, 0, 0}, {-1, 0, 0}, {Integer.MIN_VALUE, 0, 0}, {Integer.MAX_VALUE, 0, 0},
            {1, -1, 0}, {60, Integer.MIN_VALUE, 2}, {1, 0, -1}, {1, 0, 3}, {60, 0, Integer.MIN_VALUE},
            {60, 0, Integer.MAX_VALUE}, {0, -1, 3}};
        for (int[] w : wrong) {
            String call = "sessions(" + w[0] + ", " + w[1] + ", " + w[2] + ")";
            C.refused(call, x, before, x.sessions(w[0], w[1], w[2]), O);
            C.refused("no COURT: " + call, none, beforeNone, none.sessions(w[0], w[1], w[2]), O);
        }
        for (int what = 0; what < 3; what++) {
            C.refused("no COURT: least", none, beforeNone, none.sessions(1, 0, what), S);
            C.refused("no COURT: greatest", none, beforeNone, none.sessions(60, Integer.MAX_VALUE, what), S);
            C.due("least", x.sessions(1, 0, what) >= 0 ? 1 : 0, 1);
            C.due("greatest", x.sessions(60, Integer.MAX_VALUE, what) >= 0 ? 1 : 0, 1);
        }
    }
}
