import java.util.Arrays;

/** Promises 9, 10, 13, 14 and the terms they stand on, edge by edge: each told by the document's own words. */
public final class OutlookEdgesTest {
    private static final int N = HeardSecond.NONE, U = HeardSecond.UNKNOWN, O = HeardSecond.OUTSIDE, S = HeardSecond.STATE;
    private static final Checks C = new Checks();

    public static void main(String[] args) {
        alone();
        silenceDoesNotMatter();
        getHowFew();
        getNone();
        getFirst();
        getRefused();
        playBreaths();
        playTurns();
        playWorth();
        playBest();
        playFirst();
        playRefused();
        rowsWords();
        rowsWays();
        rowsHeard();
        rowsLast();
        rowsRefused();
        whenWords();
        whenLikeOnes();
        whenNone();
        C.end();
    }

    // ---- what words count here

    private static void alone() {
        C.sentence("(Each WORD here is by one alone who counts and is not OUT; SILENCE does not matter.)");
        HeardSecond out = Checks.breathed("s0,s1,s0;9", 2, 5);
        C.due("all others are OUT: get(0, 0)", out.get(0, 0), N);
        C.due("all others are OUT: play(1, 0)", out.play(1, 0), 1);
        C.due("all others are OUT: rows(1, 0)", out.rows(1, 0), 0);
        HeardSecond mute = Checks.spoken("m0,s1;9", 1);
        C.due("a MUTE one: get(0, 0)", mute.get(0, 0), N);
        C.due("a MUTE one: play(1, 0)", mute.play(1, 0), 1);
        C.due("a MUTE one: rows(1, 0)", mute.rows(1, 0), 0);
        HeardSecond far = Checks.spoken("w0,s1,s1;9", 2);
        C.due("one who is not near: get(0, 0)", far.get(0, 0), 2);
        C.due("one who is not near: get(0, 1)", far.get(0, 1), 1);
        C.due("one who is not near: play(1, 0)", far.play(1, 0), 1);
        C.due("one who is not near: rows(1, 1)", far.rows(1, 1), 2);
        far.breath(2);
        C.due("one who is near: get(0, 0)", far.get(0, 0), 1);
        C.due("one who is near: play(1, 0)", far.play(1, 0), 2);
        C.due("one who is near: rows(1, 1)", far.rows(1, 1), 5);
    }

    /** Cases with PATIENCE 1 to 9, one BREATH of SILENCE ahead of their end. */
    private static void silenceDoesNotMatter() {
        for (int patience = 1; patience <= 9; patience++) {
            HeardSecond x = Checks.spoken(Checks.courtText("swsfe", patience), 0, 1);
            HeardSecond many = Checks.spoken("s0,w1,s0,f1,e0;9", 0, 1);
            for (int silence = 1; silence < patience; silence++) {
                x.breath(0);
            }
            C.due("SILENCE", x.count(4), patience - 1);
            for (int what = 0; what < 2; what++) {
                for (int seat = 0; seat < 5; seat++) {
                    C.due("get(" + seat + ", " + what + ")", x.get(seat, what), many.get(seat, what));
                }
                for (int some = 1; some <= 6; some++) {
                    C.due("play(" + some + ", " + what + ")", x.play(some, what), many.play(some, what));
                    C.due("rows(" + some + ", " + what + ")", x.rows(some, what), many.rows(some, what));
                }
            }
            C.due("when()", x.when(), many.when());
        }
        HeardSecond x = Checks.spoken("s0,s1;1", 1, 0);
        C.due("PATIENCE 1: nobody speaks, and SIDE 0 stays BELIEVED", x.play(1, 0), 2);
        C.due("PATIENCE 1: nobody has to speak", x.play(1, 1), N);
    }

    // ---- GET

    private static void dueGet(String what, HeardSecond x, int seat, int few, int first) {
        C.due(what + ": get(" + seat + ", 0)", x.get(seat, 0), few);
        C.due(what + ": get(" + seat + ", 1)", x.get(seat, 1), first);
        C.due(what + ": seat(" + seat + ", 5)", x.seat(seat, 5), few);
    }

    private static void getHowFew() {
        C.sentence("GET: what = 0 how few, 1 who first (NONE: he is BELIEVED already)");
        HeardSecond x = Checks.courtOf("w0,w0,w0,w0,s0;9");
        for (int words = 5; words > 0; words--) {
            dueGet("five WHISPER one to the next, " + words + " to come", x, 0, words, words - 1);
            x.breath(1 << words - 1);
        }
        dueGet("he is BELIEVED", x, 0, 0, N);
        x.breath(0);
        dueGet("he is BELIEVED behind SILENCE", x, 0, 0, N);
        HeardSecond out = Checks.breathed("s0,s1;9", 1, 2, 3);
        dueGet("he is BELIEVED, though OUT", out, 1, 0, N);
        HeardSecond mute = Checks.spoken("m0,f1,s1;9", 2, 1);
        dueGet("a MUTE one is BELIEVED", mute, 0, 0, N);
    }

    private static void getNone() {
        C.sentence("(NONE: he is BELIEVED already); NONE: there is none.");
        dueGet("an ECHOER", Checks.spoken("e0,s1;9", 1), 0, N, N);
        dueGet("a FRIEND", Checks.spoken("f0,s1;9", 1), 0, N, N);
        dueGet("a MUTE one", Checks.spoken("m0,s1;9", 1), 0, N, N);
        dueGet("nobody to be second to", Checks.spoken("s0,m1;9", 0), 0, N, N);
        dueGet("no WHISPERER has a LAST one", Checks.courtOf("w0,w1,w0,w1,w0;9"), 2, N, N);
        HeardSecond was = Checks.breathed("s0,s1,s0;9", 1, 2, 6, 1);
        dueGet("he was BELIEVED, and is OUT", was, 1, N, N);
        HeardSecond nobody = Checks.spoken("s0,e0;9", 1);
        dueGet("nobody is BELIEVED: each still can be", nobody, 0, 1, 0);
        dueGet("nobody is BELIEVED: but the ECHOER", nobody, 1, N, N);
    }

    private static void getFirst() {
        C.sentence("GET: by how few WORDS from now a SEAT can be BELIEVED: who speaks the first one: the least by whom it can be so few; none.");
        dueGet("0 or 1 ahead of him", Checks.courtOf("s0,s1,s0;9"), 2, 2, 0);
        dueGet("not himself ahead of himself", Checks.courtOf("s0,s1,s0;9"), 0, 2, 1);
        dueGet("the least is MUTE", Checks.courtOf("m0,s1,s0,s1;9"), 3, 2, 1);
        dueGet("his FRIEND, or himself", Checks.spoken("f0,s1,s1;9", 1), 2, 1, 0);
        dueGet("himself, or his FRIEND", Checks.spoken("s0,f1,s1;9", 2), 0, 1, 0);
        dueGet("the FRIEND of number 0 for the greatest of five", Checks.spoken("f0,s1,s0,s1,m0;9", 1), 4, 1, 0);
        dueGet("behind the WALL", Checks.spoken("s0,s1,e0;9", 2), 1, 1, 1);
        dueGet("by way of the WALL", Checks.courtOf("e0,m1,s0;9"), 2, 2, 0);
        HeardSecond again = Checks.breathed("s0,s1,s0;9", 1, 2, 1, 0);
        dueGet("who was BELIEVED ahead of the LAST one", again, 1, 1, 1);
    }

    private static void getRefused() {
        C.sentence("NONE: there is none. UNKNOWN; OUTSIDE.");
        HeardSecond x = Checks.courtOf("s0,s1,s0,s1;9");
        long before = x.digest();
        for (int seat : new int[] {-1, 4, 5, 6, Integer.MIN_VALUE, Integer.MAX_VALUE}) {
            C.refused("get(" + seat + ", 0)", x, before, x.get(seat, 0), U);
            C.refused("get(" + seat + ", 1)", x, before, x.get(seat, 1), U);
            C.refused("get(" + seat + ", 2)", x, before, x.get(seat, 2), U);
            C.refused("get(" + seat + ", -1)", x, before, x.get(seat, -1), U);
        }
        for (int what : new int[] {-1, 2, Integer.MIN_VALUE, Integer.MAX_VALUE}) {
            C.refused("get(0, " + what + ")", x, before, x.get(0, what), O);
            C.refused("get(3, " + what + ")", x, before, x.get(3, what), O);
        }
        C.due("no COURT: get(0, 2)", new HeardSecond().get(0, 2), U);
    }

    // ---- PLAY

    private static void duePlays(String what, HeardSecond x, int[] worths, int[] firsts) {
        for (int breaths = 1; breaths <= worths.length; breaths++) {
            C.due(what + ": play(" + breaths + ", 0)", x.play(breaths, 0), worths[breaths - 1]);
            C.due(what + ": play(" + breaths + ", 1)", x.play(breaths, 1), firsts[breaths - 1]);
        }
    }

    private static void playBreaths() {
        C.sentence("PLAY of so many BREATHS (1 to 6)");
        duePlays("6 are other than 4 and 2", Checks.courtOf("s0,w0,w1;9"),
            new int[] {1, 1, 2, 1, 2, 2}, new int[] {N, N, 0, N, N, 0});
        duePlays("6 are other than 5", Checks.courtOf("s1,s1,s0,s0;9"),
            new int[] {1, 1, 2, 0, 2, 0}, new int[] {N, N, 2, N, N, N});
        duePlays("who is BELIEVED now stays so", Checks.spoken("s0,m1;9", 0),
            new int[] {1, 1, 1, 1, 1, 1}, new int[] {N, N, N, N, N, N});
    }

    private static void playTurns() {
        C.sentence("SIDE 0 first, then SIDE 1, in turn: one of that SIDE speaks a WORD, or none does;");
        duePlays("who breathes last is best off", Checks.spoken("s1,s0;9", 0),
            new int[] {2, 1, 2, 1, 2, 1}, new int[] {1, N, N, N, N, N});
        duePlays("just SIDE 0 can speak", Checks.courtOf("s0,s0;9"),
            new int[] {1, 1, 2, 2, 2, 2}, new int[] {N, N, 0, 0, N, N});
        duePlays("just SIDE 1 can", Checks.courtOf("s1,s1;9"),
            new int[] {1, 1, 1, 0, 0, 0}, new int[] {N, N, N, N, N, N});
        duePlays("nobody can", Checks.courtOf("m0,m1;9"),
            new int[] {1, 1, 1, 1, 1, 1}, new int[] {N, N, N, N, N, N});
        duePlays("the WALL is answered", Checks.courtOf("e0,s0;9"),
            new int[] {1, 1, 2, 2, 2, 2}, new int[] {N, N, 0, 0, N, N});
        duePlays("the WALL was the LAST one", Checks.spoken("e0,s0,s1;9", 0),
            new int[] {2, 0, 2, 0, 2, 0}, new int[] {1, N, N, N, N, N});
        duePlays("the LAST one is not BELIEVED", Checks.spoken("s0,s1;9", 0),
            new int[] {1, 0, 1, 0, 1, 0}, new int[] {N, N, N, N, N, N});
        duePlays("the LAST one is the FRIEND of who is BELIEVED", Checks.spoken("m0,s1,m1,f0,w0;9", 1, 3),
            new int[] {2, 0, 0, 0, 0, 0}, new int[] {4, N, N, N, N, N});
        HeardSecond whispered = Checks.spoken("e1,m1,m0,w1,s0;9", 0, 4);
        C.due("4 of five is BELIEVED, and near is one who WHISPERS behind him", whispered.play(2, 0), 0);
        HeardSecond friend = Checks.spoken("f0,w1,e0,m1,m0;9", 2, 0);
        C.due("4 of five is BELIEVED by his FRIEND 0, and near 0 is one who WHISPERS", friend.play(2, 0), 1);
        C.due("SIDE 0 has rather the WALL answer", friend.play(2, 1), 2);
    }

    private static void playWorth() {
        C.sentence("it is worth 1 to SIDE 0 if in the end one of SIDE 0 is BELIEVED, -1 if one of SIDE 1, 0 if nobody is;");
        C.due("one of SIDE 0", Checks.spoken("s0,m0,s1;9", 2, 0).play(1, 0), 2);
        C.due("nobody", Checks.courtOf("m0,m1;9").play(1, 0), 1);
        C.due("one of SIDE 1", Checks.spoken("m0,s0,s1;9", 1, 2, 2).play(2, 0), 0);
        C.due("one of SIDE 1 by a FRIEND of SIDE 0", Checks.spoken("m1,f0,s1;9", 2, 1).play(1, 0), 0);
        C.due("one of SIDE 0 by a FRIEND of SIDE 1", Checks.spoken("m0,f1,s0;9", 2, 1).play(1, 0), 2);
        C.due("the WALL answered", Checks.spoken("s1,e0;9", 0).play(1, 0), 1);
    }

    private static void playBest() {
        C.sentence("each does its best: how much, and 1;");
        HeardSecond none = Checks.spoken("e0,s1;9", 0, 1);
        C.due("SIDE 0: nobody rather than SIDE 1", none.play(1, 0), 1);
        C.due("SIDE 0: by the WALL", none.play(1, 1), 0);
        C.due("SIDE 0: itself rather than nobody", Checks.spoken("e0,s1,s0;9", 0, 1).play(1, 1), 2);
        C.due("SIDE 1: nobody rather than SIDE 0", Checks.spoken("s0,e1;9", 1, 0).play(2, 0), 1);
        C.due("SIDE 1: itself rather than nobody", Checks.spoken("s0,e1,s1;9", 1, 0).play(2, 0), 0);
        C.due("SIDE 1: itself, though a FRIEND of it is less", Checks.spoken("s0,f1,s1;9", 2, 0).play(2, 0), 0);
        C.due("SIDE 1: rather silent than its FRIEND for SIDE 0", Checks.spoken("s0,f1;9", 0).play(2, 0), 1);
        C.due("SIDE 1: rather silent than answered", Checks.spoken("s0,s1;9", 0).play(3, 0), 1);
        C.due("SIDE 0: rather silent than answered", Checks.courtOf("s0,s1;9").play(2, 0), 1);
        C.due("SIDE 0: not silent when it answers last", Checks.courtOf("s0,s1,s0;9").play(3, 0), 2);
    }

    private static void playFirst() {
        C.sentence("what SIDE 0 does first: nobody, if that is as good, else the least SEAT.");
        C.due("nobody, as SIDE 0 is BELIEVED", Checks.spoken("s0,s1,s0;9", 1, 0).play(1, 1), N);
        C.due("nobody, as it is lost", Checks.breathed("s0,s1;9", 1, 2, 3).play(1, 1), N);
        C.due("the least of two", Checks.spoken("s1,s0,s0;9", 0).play(1, 1), 1);
        C.due("the least is of SIDE 1", Checks.spoken("s1,s1,s0;9", 0).play(1, 1), 2);
        C.due("the least is the LAST one", Checks.spoken("s0,s0,s1;9", 0).play(1, 1), 1);
        C.due("the least is MUTE", Checks.spoken("m0,s1,s0;9", 1).play(1, 1), 2);
        C.due("the least is not near", Checks.spoken("w0,s0,s1;9", 2).play(1, 1), 1);
        C.due("the least is not as good", Checks.spoken("s1,e0,s1,f0,s0;9", 0).play(1, 1), 4);
        C.due("the greatest of five", Checks.spoken("s1,m0,m0,m0,s0;9", 0).play(1, 1), 4);
        C.due("number 0 is no NONE", Checks.spoken("s0,s1;9", 1).play(1, 1), 0);
    }

    private static void playRefused() {
        C.sentence("PLAY: what = 0 how much, and 1, 1 who of SIDE 0 speaks first (NONE: nobody). "
            + "OUTSIDE: breaths, what; STATE: no COURT.");
        HeardSecond x = Checks.courtOf("s0,s1;9");
        C.due("play(1, 0)", x.play(1, 0), 1);
        C.due("play(1, 1)", x.play(1, 1), N);
        HeardSecond none = new HeardSecond();
        long before = x.digest();
        long beforeNone = none.digest();
        for (int breaths : new int[] {0, 7, -1, Integer.MIN_VALUE, Integer.MAX_VALUE}) {
            C.refused("play(" + breaths + ", 0)", x, before, x.play(breaths, 0), O);
            C.refused("play(" + breaths + ", 1)", x, before, x.play(breaths, 1), O);
            C.refused("no COURT: play(" + breaths + ", 0)", none, beforeNone, none.play(breaths, 0), O);
        }
        for (int what : new int[] {-1, 2, Integer.MIN_VALUE, Integer.MAX_VALUE}) {
            C.refused("play(1, " + what + ")", x, before, x.play(1, what), O);
            C.refused("play(6, " + what + ")", x, before, x.play(6, what), O);
            C.refused("no COURT: play(6, " + what + ")", none, beforeNone, none.play(6, what), O);
        }
        for (int breaths = 1; breaths <= 6; breaths++) {
            C.refused("no COURT: play(" + breaths + ", 0)", none, beforeNone, none.play(breaths, 0), S);
            C.refused("no COURT: play(" + breaths + ", 1)", none, beforeNone, none.play(breaths, 1), S);
        }
    }

    // ---- ROWS

    private static void dueRows(String what, HeardSecond x, int words, int ways, int lasts) {
        C.due(what + ": rows(" + words + ", 0)", x.rows(words, 0), ways);
        C.due(what + ": rows(" + words + ", 1)", x.rows(words, 1), lasts);
    }

    private static void rowsWords() {
        C.sentence("ROWS of so many WORDS (0 to 6): in how many ways these can be spoken");
        int ways = 1;
        for (int words = 0; words <= 6; words++) {
            dueRows("five ECHOERS", Checks.courtOf("e0,e1,e0,e1,e0;9"), words, ways, words == 0 ? 64 : 32);
            ways *= 5;
        }
        int[] speakers = {1, 5, 20, 80, 320, 1280, 5120};
        for (int words = 0; words <= 6; words++) {
            dueRows("five SPEAKERS", Checks.courtOf("s0,s1,s0,s1,s0;9"), words, speakers[words], words == 0 ? 64 : 31);
        }
        int[] behindLast = {1, 4, 16, 64, 256, 1024, 4096};
        for (int words = 0; words <= 6; words++) {
            dueRows("five SPEAKERS, 3 is LAST and BELIEVED", Checks.spoken("s0,s1,s0,s1,s0;9", 1, 3), words,
                behindLast[words], words == 0 ? 8 : words == 1 ? 23 : 31);
            dueRows("five SPEAKERS, 2 is LAST, 1 is BELIEVED", Checks.spoken("s0,s1,f0,s1,s0;9", 1, 2), words,
                behindLast[words], words == 0 ? 4 : words == 1 ? 27 : 31);
        }
        int[] lasts = {64, 3, 3, 3, 3, 3, 3};
        for (int words = 0; words <= 6; words++) {
            dueRows("two SPEAKERS", Checks.courtOf("s0,s1;9"), words, words == 0 ? 1 : 2, lasts[words]);
        }
    }

    private static void rowsWays() {
        C.sentence("(each by one who counts, and is not the LAST one, nor OUT)");
        dueRows("who is the LAST one", Checks.spoken("s0,s1,s0;9", 0), 1, 2, 6);
        dueRows("who is OUT", Checks.breathed("s0,s1,s0;9", 3), 1, 1, 4);
        dueRows("who was LAST, and is OUT", Checks.breathed("s0,s1,s0;9", 1, 3), 2, 0, 0);
        dueRows("who is MUTE", Checks.courtOf("s0,m1,s0;9"), 1, 2, 5);
        dueRows("who is not near", Checks.courtOf("w0,s0,w1;9"), 1, 1, 2);
        dueRows("who is near then", Checks.courtOf("w0,s0,w1;9"), 2, 2, 5);
        dueRows("an ECHOER is never the LAST one", Checks.spoken("e0,m1;9", 0), 6, 1, 32);
    }

    /** Of each number of WORDS something is HEARD that cannot be: it bars the ROWS of so many and more alone. */
    private static void rowsHeard() {
        C.sentence("so that all HEARD of no more WORDS is so;");
        for (int told = 0; told <= 8; told++) {
            HeardSecond x = Checks.courtOf("s0,e1;9");
            x.hear(told, 1);
            for (int words = 0; words <= 6; words++) {
                HeardSecond free = Checks.courtOf("s0,e1;9");
                boolean barred = told <= words;
                dueRows("HEARD of " + told, x, words, barred ? 0 : free.rows(words, 0), barred ? 0 : free.rows(words, 1));
            }
            C.due("WHEN, HEARD of " + told, x.when(), told <= 6 ? N : 6);
        }
        HeardSecond last = Checks.spoken("s0,s1;9", 0);
        last.hear(0, N);
        dueRows("nobody is BELIEVED, though one is the LAST one", last, 0, 1, 1);
        last.hear(0, 0);
        dueRows("the LAST one is not BELIEVED", last, 0, 0, 0);
        HeardSecond all = Checks.courtOf("s0,s1;9");
        int[] heard = {N, N, 1, 0, 1, 0, 1};
        for (int words = 0; words <= 6; words++) {
            all.hear(words, heard[words]);
            dueRows("all is HEARD of one row", all, words, words == 0 ? 1 : words == 1 ? 2 : 1,
                words == 0 ? 64 : words == 1 ? 3 : words % 2 == 0 ? 2 : 1);
        }
        C.due("hear(6, 1) again", all.hear(6, 1), 8);
        dueRows("the same HEARD twice", all, 6, 1, 2);
    }

    private static void rowsLast() {
        C.sentence("who can have been the LAST one behind these: as bits (5: the WALL; 6: nobody).");
        dueRows("nobody", Checks.courtOf("s0,s1,s0,s1,s0;9"), 0, 1, 64);
        for (int seat = 0; seat < 5; seat++) {
            dueRows("SEAT " + seat, Checks.spoken("s0,s1,s0,s1,s0;9", seat), 0, 1, 1 << seat);
            dueRows("any but SEAT " + seat, Checks.spoken("s0,s1,s0,s1,s0;9", seat), 1, 4, 31 - (1 << seat));
        }
        dueRows("the WALL", Checks.spoken("s0,s1,s0,s1,e0;9", 4), 0, 1, 32);
        dueRows("SEATS and the WALL", Checks.spoken("s0,s1,s0,s1,e0;9", 4), 1, 5, 47);
        dueRows("no ROWS", Checks.courtOf("m0,m1;9"), 1, 0, 0);
    }

    private static void rowsRefused() {
        C.sentence("ROWS: what = 0 how many ways, 1 who can have been the LAST one, as bits. "
            + "OUTSIDE: words, what; STATE: no COURT.");
        HeardSecond x = Checks.courtOf("s0,s1;9");
        dueRows("two SPEAKERS", x, 1, 2, 3);
        HeardSecond none = new HeardSecond();
        long before = x.digest();
        long beforeNone = none.digest();
        for (int words : new int[] {-1, 7, 8, Integer.MIN_VALUE, Integer.MAX_VALUE}) {
            C.refused("rows(" + words + ", 0)", x, before, x.rows(words, 0), O);
            C.refused("rows(" + words + ", 1)", x, before, x.rows(words, 1), O);
            C.refused("no COURT: rows(" + words + ", 0)", none, beforeNone, none.rows(words, 0), O);
        }
        for (int what : new int[] {-1, 2, Integer.MIN_VALUE, Integer.MAX_VALUE}) {
            C.refused("rows(0, " + what + ")", x, before, x.rows(0, what), O);
            C.refused("rows(6, " + what + ")", x, before, x.rows(6, what), O);
            C.refused("no COURT: rows(6, " + what + ")", none, beforeNone, none.rows(6, what), O);
        }
        for (int words = 0; words <= 6; words++) {
            C.refused("no COURT: rows(" + words + ", 0)", none, beforeNone, none.rows(words, 0), S);
            C.refused("no COURT: rows(" + words + ", 1)", none, beforeNone, none.rows(words, 1), S);
        }
    }

    // ---- WHEN

    private static void dueLeft(String text, int when, int... left) {
        dueLeftThen(text, new int[] {}, new int[] {}, when, left);
    }

    /** How many ROWS of 6 are left at worst by each look is asked by HEARD and ROWS. */
    private static void dueLeftThen(String text, int[] spoken, int[] heard, int when, int... left) {
        HeardSecond x = Checks.spoken(text, spoken);
        hearAll(x, heard);
        String then = text + ", spoken " + Arrays.toString(spoken) + ", HEARD " + Arrays.toString(heard);
        C.due(then + ": when()", x.when(), when);
        for (int words = 1; words <= 6; words++) {
            int worst = 0;
            for (int seat = N; seat < x.count(0); seat++) {
                x.hear(words, seat);
                worst = Math.max(worst, x.rows(6, 0));
                x.forget();
                hearAll(x, heard);
            }
            C.due(then + ": left at worst by a look behind " + words, worst, left[words - 1]);
        }
    }

    /** What was heard is told by pairs: behind how many words, and who. */
    private static void hearAll(HeardSecond x, int[] heard) {
        for (int place = 0; place < heard.length; place += 2) {
            x.hear(heard[place], heard[place + 1]);
        }
    }

    private static void whenWords() {
        C.sentence("WHEN: behind how many WORDS (1 to 6) to look who is BELIEVED, so that fewest of the ROWS of 6 are left at worst:");
        dueLeft("w0,s0;9", 1, 1, 1, 1, 1, 1, 1);
        dueLeft("s0,s0;9", 2, 2, 1, 1, 1, 1, 1);
        dueLeft("f0,e0,s0;9", 3, 239, 123, 120, 120, 123, 140);
        dueLeft("s0,w0,w0,s0;9", 4, 140, 41, 36, 35, 36, 41);
        dueLeft("s0,w0,s0;9", 5, 64, 32, 24, 24, 22, 22);
        dueLeft("e0,s0;9", 6, 21, 16, 15, 15, 16, 13);
        dueLeft("f0,m0,m0,m0,s0;9", 1, 2, 2, 2, 2, 2, 2);
        dueLeft("s0,s1,s0,s1,s0;9", 2, 5120, 1024, 1024, 1024, 1024, 1024);
        // MUTE ones ahead change nothing, as they stand beside nobody who WHISPERS.
        dueLeft("m0,m0,m0,s0,s0;9", 2, 2, 1, 1, 1, 1, 1);
        dueLeft("m0,s0,w0,w0,s0;9", 4, 140, 41, 36, 35, 36, 41);
        dueLeft("m0,m0,s0,w0,s0;9", 5, 64, 32, 24, 24, 22, 22);
        dueLeft("m0,m0,m0,e0,s0;9", 6, 21, 16, 15, 15, 16, 13);
        whenFromNow();
        whenHeard();
    }

    private static void whenFromNow() {
        int[] none = {};
        dueLeftThen("s0,s1;9", new int[] {1}, none, 1, 1, 1, 1, 1, 1, 1);
        dueLeftThen("s0,w1;9", new int[] {0, 1}, none, 1, 1, 1, 1, 1, 1, 1);
        dueLeftThen("s0,s1,s0;9", new int[] {2}, none, 5, 32, 32, 24, 24, 22, 22);
        dueLeftThen("f0,e1;9", new int[] {1, 0}, none, 2, 13, 8, 10, 9, 10, 8);
        dueLeftThen("f0,s1,f0;9", new int[] {2, 1}, none, 1, 32, 48, 40, 44, 42, 43);
        dueLeftThen("s0,s1,s0,s1,s0;9", new int[] {1, 3}, none, 5, 1024, 1024, 832, 832, 820, 820);
    }

    private static void whenHeard() {
        int[] none = {};
        dueLeftThen("s0,s1;9", none, new int[] {5, 0}, 1, 1, 1, 1, 1, 1, 1);
        dueLeftThen("s0,s1;9", new int[] {1}, new int[] {1, 0}, 1, 1, 1, 1, 1, 1, 1);
        dueLeftThen("s0,e1;9", new int[] {1}, new int[] {4, 0, 6, 0, 1, 0}, 1, 1, 1, 1, 1, 1, 1);
        dueLeftThen("e0,s1;9", none, new int[] {5, 1}, 3, 5, 4, 3, 5, 5, 5);
        dueLeftThen("f0,e1;9", none, new int[] {6, 1}, 4, 8, 6, 6, 5, 8, 8);
        dueLeftThen("s0,s1,s0;9", new int[] {2, 1}, new int[] {1, 2}, 6, 32, 16, 16, 12, 12, 11);
        dueLeftThen("e0,s1;9", new int[] {1, 0}, new int[] {1, 1, 3, 1}, 5, 3, 3, 3, 3, 2, 2);
        dueLeftThen("f0,s1,e0;9", new int[] {2}, new int[] {2, 1}, 6, 29, 58, 34, 28, 30, 24);
        dueLeftThen("e0,s1,s0;9", new int[] {2}, new int[] {4, N}, 3, 49, 42, 35, 84, 36, 36);
        dueLeftThen("e0,s1,s0;9", new int[] {2}, new int[] {4, N, 7, 2, 8, N}, 3, 49, 42, 35, 84, 36, 36);
    }

    private static void whenLikeOnes() {
        C.sentence("of like ones the least;");
        C.due("all are alike", Checks.courtOf("e0,e1;9").when(), 1);
        C.due("2 to 6 are alike", Checks.courtOf("s0,s1;9").when(), 2);
        C.due("3 and 4 are alike", Checks.courtOf("f0,e0,s0;9").when(), 3);
        C.due("5 and 6 are alike", Checks.courtOf("s0,w0,s0;9").when(), 5);
        HeardSecond x = Checks.courtOf("s0,s1;9");
        x.hear(6, 0);
        C.due("one is left by what was HEARD: all are alike", x.when(), 1);
    }

    private static void whenNone() {
        C.sentence("none, if there are no ROWS of 6.");
        C.due("nobody counts", Checks.courtOf("m0,m1;9").when(), N);
        C.due("ROWS of 1 alone", Checks.courtOf("s0,m1;9").when(), N);
        C.due("all are OUT", Checks.breathed("s0,s1;9", 3).when(), N);
        C.due("one is LAST and BELIEVED, all are OUT", Checks.breathed("s0,s1;9", 1, 2, 3).when(), N);
        C.due("one is LAST, the others are MUTE", Checks.spoken("m0,m1,s0;9", 2).when(), N);
        HeardSecond x = Checks.courtOf("s0,s1;9");
        x.hear(6, N);
        C.due("by what was HEARD: ROWS of 5", x.rows(5, 0), 2);
        C.due("by what was HEARD: ROWS of 6", x.rows(6, 0), 0);
        C.due("by what was HEARD: when()", x.when(), N);
        C.sentence("`int when()`: WHEN; NONE. STATE: no COURT.");
        HeardSecond none = new HeardSecond();
        C.refused("no COURT: when()", none, none.digest(), none.when(), S);
        Checks.type(none, "s0,s1;1");
        C.refused("a COURT that is not read", none, none.digest(), none.when(), S);
    }
}
