/** Promises 9, 10, 13, 14: get, play, rows, when. */
public final class OutlookTest {
    private static final int N = HeardSecond.NONE, U = HeardSecond.UNKNOWN, O = HeardSecond.OUTSIDE, S = HeardSecond.STATE;
    private static final Checks C = new Checks();

    public static void main(String[] args) {
        get();
        getChanged();
        getRefused();
        play();
        playChanged();
        playRefused();
        rows();
        rowsHeard();
        rowsRefused();
        when();
        whenHeard();
        C.end();
    }

    private static void dueGet(String what, HeardSecond x, int seat, int few, int first) {
        C.due(what + ": get(" + seat + ", 0)", x.get(seat, 0), few);
        C.due(what + ": get(" + seat + ", 1)", x.get(seat, 1), first);
        C.due(what + ": seat(" + seat + ", 5)", x.seat(seat, 5), few);
    }

    private static void get() {
        HeardSecond x = Checks.courtOf("s0,s1,s0;9");
        dueGet("new", x, 0, 2, 1);
        dueGet("new", x, 1, 2, 0);
        x.breath(1);
        dueGet("0 spoke", x, 0, 2, 1);
        dueGet("0 spoke", x, 1, 1, 1);
        dueGet("0 spoke", x, 2, 1, 2);
        x.breath(2);
        dueGet("1 is believed", x, 1, 0, N);
        dueGet("1 is believed", x, 0, 1, 0);
        HeardSecond w = Checks.courtOf("m0,s1,w0,w0,w1;9");
        dueGet("MUTE", w, 0, N, N);
        dueGet("nobody to be heard ahead of him", w, 1, 3, 1);
        dueGet("whisper", w, 2, 2, 1);
        dueGet("whispers from one to the other", w, 3, 3, 1);
        dueGet("the longest way", w, 4, 4, 1);
        HeardSecond f = Checks.courtOf("f0,s1,m0;9");
        dueGet("for the last one his FRIEND 0 speaks", f, 2, 2, 1);
        dueGet("a FRIEND is not believed himself", f, 0, N, N);
        HeardSecond g = Checks.courtOf("m1,f0,s0;9");
        dueGet("a planted friend", g, 0, 2, 2);
        dueGet("one cannot be second to himself", Checks.courtOf("s0,m1;9"), 0, N, N);
        HeardSecond e = Checks.courtOf("e0,s1,e0;9");
        dueGet("an ECHOER", e, 0, N, N);
        dueGet("second to the WALL", e, 1, 2, 0);
        HeardSecond p = Checks.courtOf("e1,f0;9");
        dueGet("the friend of an ECHOER", p, 0, 2, 0);
    }

    private static void getChanged() {
        HeardSecond x = Checks.courtOf("s0,s1,s0;9");
        x.breath(3);
        dueGet("0 is OUT", x, 0, N, N);
        dueGet("the others are OUT", x, 2, N, N);
        HeardSecond y = Checks.spoken("s0,s1,s0;9", 0, 1);
        y.breath(6);
        dueGet("believed already, though OUT", y, 1, 0, N);
        dueGet("second to one who is OUT", y, 0, 1, 0);
        y.breath(1);
        dueGet("he was, and cannot be again", y, 1, N, N);
        HeardSecond z = Checks.spoken("s0,s1;1", 0, 1, 0);
        z.breath(0);
        dueGet("a new case", z, 0, 2, 1);
    }

    private static void getRefused() {
        HeardSecond x = Checks.courtOf("s0,s1,s0;9");
        long before = x.digest();
        C.refused("get(3, 0)", x, before, x.get(3, 0), U);
        C.refused("get(-1, 0)", x, before, x.get(-1, 0), U);
        C.refused("get(min, 0)", x, before, x.get(Integer.MIN_VALUE, 0), U);
        C.refused("get(0, 2)", x, before, x.get(0, 2), O);
        C.refused("get(0, -1)", x, before, x.get(0, -1), O);
        C.refused("get(2, max)", x, before, x.get(2, Integer.MAX_VALUE), O);
        C.refused("UNKNOWN ahead of OUTSIDE", x, before, x.get(3, 2), U);
    }

    private static void duePlay(String what, HeardSecond x, int breaths, int worth, int first) {
        C.due(what + ": play(" + breaths + ", 0)", x.play(breaths, 0), worth);
        C.due(what + ": play(" + breaths + ", 1)", x.play(breaths, 1), first);
    }

    private static void play() {
        HeardSecond x = Checks.courtOf("s0,s1;9");
        duePlay("nobody begins", x, 1, 1, N);
        duePlay("nobody begins", x, 2, 1, N);
        duePlay("nobody begins", x, 6, 1, N);
        HeardSecond y = Checks.courtOf("s0,s1,s0;9");
        duePlay("nothing to win in one", y, 1, 1, N);
        duePlay("SIDE 1 answers", y, 2, 1, N);
        duePlay("0 begins, SIDE 0 has the last word", y, 3, 2, 0);
        HeardSecond last = Checks.courtOf("s1,s0,s0;9");
        duePlay("SIDE 1 has the last word", last, 4, 1, N);
        duePlay("SIDE 0 has it: 1 begins", last, 3, 2, 1);
        HeardSecond e = Checks.courtOf("e0,s0;9");
        duePlay("the WALL is not planted in two", e, 2, 1, N);
        duePlay("the WALL is planted, and answered", e, 3, 2, 0);
        duePlay("SIDE 1 has nobody", e, 4, 2, 0);
        duePlay("it can be done later: nobody", e, 5, 2, N);
        HeardSecond f = Checks.courtOf("f1,s0,s0,s0,m0;9");
        duePlay("even for SIDE 1 its FRIEND speaks for SIDE 0", f, 2, 1, N);
    }

    private static void playChanged() {
        HeardSecond x = Checks.spoken("s0,s1;9", 0);
        duePlay("SIDE 1 is second", x, 1, 1, N);
        duePlay("SIDE 1 is second", x, 2, 0, N);
        duePlay("SIDE 1 had rather be silent than answered", x, 3, 1, N);
        x.breath(2);
        duePlay("SIDE 1 is believed", x, 1, 2, 0);
        duePlay("it would be again", x, 2, 0, N);
        HeardSecond y = Checks.spoken("s0,s1,s0;9", 1, 0);
        duePlay("as good as it can be: nobody", y, 1, 2, N);
        HeardSecond z = Checks.spoken("s1,s0,s0;9", 1, 0);
        duePlay("of two who can: the least", z, 1, 2, 1);
        z.breath(6);
        duePlay("none of SIDE 0 counts", z, 1, 0, N);
        HeardSecond e = Checks.spoken("s1,e0;9", 1, 0);
        duePlay("an ECHOER can make it even", e, 1, 1, 1);
        HeardSecond w = Checks.spoken("s1,w0,w0,s1;9", 3, 0);
        duePlay("just the WHISPERER who is near", w, 1, 2, 1);
        HeardSecond f = Checks.spoken("s1,f0,s1,f0,s0;9", 4, 0);
        duePlay("FRIENDS of the wrong side", f, 1, 2, 4);
    }

    private static void playRefused() {
        HeardSecond none = new HeardSecond();
        C.due("no court: play(0, 0)", none.play(0, 0), O);
        C.due("no court: play(6, 1)", none.play(6, 1), S);
        C.due("no court: play(1, 2)", none.play(1, 2), O);
        HeardSecond x = Checks.courtOf("s0,s1;9");
        long before = x.digest();
        C.refused("play(0, 0)", x, before, x.play(0, 0), O);
        C.refused("play(7, 0)", x, before, x.play(7, 0), O);
        C.refused("play(-1, 1)", x, before, x.play(-1, 1), O);
        C.refused("play(min, 1)", x, before, x.play(Integer.MIN_VALUE, 1), O);
        C.refused("play(max, 1)", x, before, x.play(Integer.MAX_VALUE, 1), O);
        C.refused("play(1, -1)", x, before, x.play(1, -1), O);
        C.refused("play(1, 2)", x, before, x.play(1, 2), O);
    }

    private static void dueRows(String what, HeardSecond x, int words, int ways, int lasts) {
        C.due(what + ": rows(" + words + ", 0)", x.rows(words, 0), ways);
        C.due(what + ": rows(" + words + ", 1)", x.rows(words, 1), lasts);
    }

    private static void rows() {
        HeardSecond x = Checks.courtOf("s0,s1,s0;9");
        dueRows("nobody spoke", x, 0, 1, 64);
        dueRows("any", x, 1, 3, 7);
        dueRows("any but the last one", x, 2, 6, 7);
        dueRows("the most words", x, 6, 96, 7);
        HeardSecond y = Checks.spoken("s0,s1,s0;9", 1);
        dueRows("1 spoke", y, 0, 1, 2);
        dueRows("1 spoke", y, 1, 2, 5);
        dueRows("1 spoke", y, 2, 4, 7);
        y.breath(5);
        dueRows("the others are OUT", y, 1, 0, 0);
        HeardSecond e = Checks.courtOf("e0,e1,e0,e1,e0;9");
        dueRows("ECHOERS leave just the WALL", e, 6, 15625, 32);
        HeardSecond w = Checks.courtOf("s0,w1,w0,m1,e0;9");
        dueRows("whispers", w, 1, 2, 33);
        dueRows("whispers", w, 2, 4, 35);
        dueRows("whispers", w, 3, 9, 39);
        HeardSecond wall = Checks.spoken("e0,s1;9", 0);
        dueRows("the WALL was the last", wall, 0, 1, 32);
    }

    private static void rowsHeard() {
        HeardSecond x = Checks.spoken("s0,s1,s0;9", 1);
        x.hear(2, 0);
        dueRows("HEARD of more words", x, 1, 2, 5);
        dueRows("0 is believed behind 2", x, 2, 1, 1);
        dueRows("and two can follow", x, 3, 2, 6);
        x.hear(3, N);
        dueRows("nobody behind 3", x, 3, 0, 0);
        dueRows("that does not matter behind 2", x, 2, 1, 1);
        x.forget();
        x.hear(0, N);
        dueRows("nobody is believed now", x, 1, 2, 5);
        x.hear(0, N);
        dueRows("the same heard again", x, 1, 2, 5);
        x.breath(1);
        dueRows("counted from now: that is not so any more", x, 0, 0, 0);
        dueRows("counted from now: that is not so any more", x, 1, 0, 0);
        x.forget();
        x.hear(0, 0);
        dueRows("0 is believed now", x, 0, 1, 1);
        x.hear(1, 1);
        x.hear(1, 2);
        dueRows("two cannot be so at once", x, 1, 0, 0);
        HeardSecond f = Checks.courtOf("f0,f1,s1;9");
        f.hear(2, 2);
        dueRows("who is believed by his FRIEND or himself", f, 2, 4, 5);
    }

    private static void rowsRefused() {
        HeardSecond none = new HeardSecond();
        C.due("no court: rows(7, 0)", none.rows(7, 0), O);
        C.due("no court: rows(6, 1)", none.rows(6, 1), S);
        C.due("no court: rows(0, 2)", none.rows(0, 2), O);
        HeardSecond x = Checks.courtOf("s0,s1;9");
        long before = x.digest();
        C.refused("rows(-1, 0)", x, before, x.rows(-1, 0), O);
        C.refused("rows(7, 0)", x, before, x.rows(7, 0), O);
        C.refused("rows(min, 0)", x, before, x.rows(Integer.MIN_VALUE, 0), O);
        C.refused("rows(max, 1)", x, before, x.rows(Integer.MAX_VALUE, 1), O);
        C.refused("rows(0, -1)", x, before, x.rows(0, -1), O);
        C.refused("rows(0, 2)", x, before, x.rows(0, 2), O);
    }

    private static void when() {
        C.due("no court: when()", new HeardSecond().when(), S);
        C.due("two who alternate are told apart from the second on", Checks.courtOf("s0,s1;9").when(), 2);
        C.due("one row alone: the first look is as good", Checks.spoken("s0,s1;9", 0).when(), 1);
        C.due("ECHOERS: nobody is believed at any time", Checks.courtOf("e0,e1,e0;9").when(), 1);
        C.due("SPEAKER and ECHOER: of 21 rows are left 21, 16, 15, 15, 16, 13", Checks.courtOf("s0,e1;9").when(), 6);
        C.due("nobody else can speak", Checks.courtOf("s0,m1;9").when(), N);
        C.due("nobody counts", Checks.courtOf("m0,w1;9").when(), N);
        HeardSecond x = Checks.courtOf("s0,s1,s0;9");
        C.due("96 rows, 32 are left from the second on", x.when(), 2);
        x.breath(2);
        C.due("of 64 rows are left 32, 32, 24, 24, 22, 22", x.when(), 5);
    }

    private static void whenHeard() {
        HeardSecond x = Checks.courtOf("s0,s1;9");
        x.hear(2, 0);
        C.due("one row is left", x.when(), 1);
        x.hear(1, 0);
        C.due("none is left: nobody is believed behind the first word", x.when(), N);
        x.forget();
        x.hear(7, N);
        x.hear(8, 0);
        C.due("HEARD of 7 and 8 words does not matter", x.when(), 2);
        x.hear(0, 1);
        C.due("HEARD of now does", x.when(), N);
        x.forget();
        x.hear(6, N);
        C.due("HEARD of 6 words does", x.when(), N);
    }
}
