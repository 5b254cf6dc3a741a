/** Promises 1 to 8: a new object, letter, blank, fault, court, seat, as, breath. */
public final class CourtTest {
    private static final int U = HeardSecond.UNKNOWN, O = HeardSecond.OUTSIDE, S = HeardSecond.STATE, F = HeardSecond.FULL;
    private static final Checks C = new Checks();

    public static void main(String[] args) {
        newObject();
        letter();
        blank();
        fault();
        faultByPlace();
        court();
        courtAgain();
        seat();
        seatCounts();
        as();
        breathRefused();
        breathWords();
        breathWallAndFriends();
        breathOut();
        breathWhispers();
        breathSilence();
        C.end();
    }

    private static void newObject() {
        HeardSecond x = new HeardSecond();
        int[] due = {0, 0, -1, -1, 0, 0, 0, 0, 0, 0, 0, 0};
        for (int what = 0; what < due.length; what++) {
            C.due("new: count(" + what + ")", x.count(what), due[what]);
        }
        C.due("new: fault()", x.fault(), 0);
        C.due("new: blank()", x.blank(), 0);
        C.due("new: court()", x.court(), S);
        C.due("new: seat(0, 0)", x.seat(0, 0), U);
        C.due("new: as(0, 0)", x.as(0, 0), U);
        C.due("new: get(0, 0)", x.get(0, 0), U);
        C.due("new: breath(0)", x.breath(0), S);
        C.due("new: play(1, 0)", x.play(1, 0), S);
        C.due("new: rows(0, 0)", x.rows(0, 0), S);
        C.due("new: when()", x.when(), S);
        C.due("new: sessions(1, 0, 0)", x.sessions(1, 0, 0), S);
        C.due("new: image()", x.image(), S);
        C.due("new: restore()", x.restore(), S);
        C.due("new: forget()", x.forget(), 0);
    }

    private static void letter() {
        HeardSecond x = new HeardSecond();
        long before = x.digest();
        C.refused("letter(0)", x, before, x.letter(0), O);
        C.refused("letter(127)", x, before, x.letter(127), O);
        C.refused("letter(-1)", x, before, x.letter(-1), O);
        C.refused("letter(min)", x, before, x.letter(Integer.MIN_VALUE), O);
        C.refused("letter(max)", x, before, x.letter(Integer.MAX_VALUE), O);
        C.due("letter(1)", x.letter(1), 1);
        C.due("letter(126)", x.letter(126), 2);
        for (int has = 3; has <= 18; has++) {
            C.due("letter " + has, x.letter(40 + has), has);
        }
        before = x.digest();
        C.refused("a 19th letter", x, before, x.letter(115), F);
        C.refused("OUTSIDE ahead of FULL", x, before, x.letter(127), O);
        C.due("count(10)", x.count(10), 18);
        C.due("a letter behind a court", Checks.courtOf("s0,s1;1").letter(5), 1);
    }

    private static void blank() {
        HeardSecond x = Checks.pageOf("s0,");
        C.due("blank() of 3", x.blank(), 3);
        C.due("blank() of none", x.blank(), 0);
        C.due("fault() when blank", x.fault(), 0);
        Checks.type(x, "s0,s1;1");
        C.due("court() behind blank()", x.court(), 2);
        Checks.type(x, "1234567890abcdefgh");
        C.due("blank() of 18", x.blank(), 18);
        C.due("blank() leaves the court", x.count(0), 2);
    }

    private static void fault() {
        due("", 0);
        due("s", 1);
        due("s0", 2);
        due("s0,", 3);
        due("s0,s1;9", 7);
        due("s0,s1;1", 7);
        due("s0,s1;0", 6);
        due("s0,s1;:", 6);
        due("s0;", 2);
        due("s0;1", 2);
        due("s0,s1;1;", 7);
        due("s0,s1;11", 7);
        due("s2", 1);
        due("s/", 1);
        due("x0", 0);
        due("S0", 0);
        due("ss", 1);
        due("0", 0);
        due(",", 0);
        due("s0s", 2);
        due("s0,;", 3);
        due("w0,e1,f0,m1,s0;5", 16);
        due("w0,e1,f0,m1,s0", 14);
        due("w0,e1,f0,m1,s0,", 14);
        due("w0,e1,f0,m1;", 12);
        due("w0,e1,f0,m1,s0;5s", 16);
        due("zz,s1;1", 0);
    }

    private static void due(String page, int place) {
        HeardSecond x = Checks.pageOf(page);
        C.due("fault() of \"" + page + "\"", x.fault(), place);
        C.due("fault() leaves the page", x.count(10), page.length());
    }

    /** Each letter at each place of a whole court: just the letters of a court are let pass. */
    private static void faultByPlace() {
        String whole = "s0,w1;3";
        String[] allowed = {"swefm", "01", ",", "swefm", "01", ",;", "123456789"};
        for (int place = 0; place < whole.length(); place++) {
            for (int code = 1; code <= 126; code++) {
                HeardSecond x = Checks.pageOf(whole.substring(0, place));
                x.letter(code);
                boolean fits = allowed[place].indexOf(code) >= 0;
                C.due("fault() with code " + code + " at " + place, x.fault(), fits ? place + 1 : place);
            }
        }
    }

    private static void court() {
        for (String page : new String[] {"", "s0", "s0,s1", "s0,s1;", "s0;1", "s0,s1;0", "s0,s1;11", "s0,s1,;1"}) {
            HeardSecond x = Checks.pageOf(page);
            C.refused("court() of \"" + page + "\"", x, x.digest(), x.court(), S);
            C.due("a refused court() leaves the page", x.count(10), page.length());
        }
        String[] whole = {"s0,s1;1", "s0,s1,w0;2", "m0,e1,f0,s1;8", "s0,w1,e0,f1,m0;9"};
        for (int i = 0; i < whole.length; i++) {
            HeardSecond x = Checks.pageOf(whole[i]);
            C.due("court() of " + whole[i], x.court(), i + 2);
            C.due("its page", x.count(10), 0);
            C.due("its seats", x.count(0), i + 2);
            C.due("its patience", x.count(1), whole[i].charAt(whole[i].length() - 1) - '0');
            C.due("courts read", x.count(11), 1);
            C.due("court() of the empty page", x.court(), S);
            C.due("courts read still", x.count(11), 1);
        }
    }

    private static void courtAgain() {
        HeardSecond x = Checks.courtOf("s0,s1,s0,e1,f0;1");
        x.breath(1);
        x.breath(2);
        x.breath(0);
        x.breath(2);
        x.breath(1);
        x.breath(0);
        x.breath(1);
        x.breath(2);
        x.breath(3);
        x.hear(1, 4);
        x.image();
        Checks.type(x, "s0,");
        long before = x.digest();
        C.refused("court() of half a court", x, before, x.court(), S);
        C.due("the court there was", x.count(0), 5);
        C.due("image goes on", x.restore(), 9);
        dueCases("each SIDE won one", x, 2, 1, 1);
        Checks.type(x, "w1;2");
        C.due("another court()", x.court(), 2);
        int[] due = {2, 2, -1, -1, 0, 0, 0, 0, 0, 0, 0, 2};
        for (int what = 0; what < due.length; what++) {
            C.due("another court: count(" + what + ")", x.count(what), due[what]);
        }
        C.due("its seat 1 is a WHISPERER", x.seat(1, 0), 1);
        C.due("nobody is out", x.seat(0, 2), 0);
        C.due("no words", x.seat(0, 4), 0);
        C.due("seat 2 is gone", x.seat(2, 0), U);
        C.due("the image is gone", x.restore(), S);

        HeardSecond y = new HeardSecond();
        y.hear(3, -1);
        Checks.type(y, "s0,s1;1");
        y.court();
        C.due("what was HEARD ahead of the first court", y.count(9), 0);
    }

    private static void seat() {
        HeardSecond x = Checks.courtOf("s0,w1,e0,f1,m0;3");
        int[] sides = {0, 1, 0, 1, 0};
        for (int seat = 0; seat < 5; seat++) {
            C.due("KIND of " + seat, x.seat(seat, 0), seat);
            C.due("SIDE of " + seat, x.seat(seat, 1), sides[seat]);
            C.due("OUT of " + seat, x.seat(seat, 2), 0);
            C.due("words of " + seat, x.seat(seat, 4), 0);
        }
        int[] get = {2, 2, 2, -1, -1};
        for (int seat = 0; seat < 5; seat++) {
            C.due("GET of " + seat, x.seat(seat, 5), get[seat]);
        }
        long before = x.digest();
        C.refused("seat(-1, 0)", x, before, x.seat(-1, 0), U);
        C.refused("seat(5, 0)", x, before, x.seat(5, 0), U);
        C.refused("seat(min, 0)", x, before, x.seat(Integer.MIN_VALUE, 0), U);
        C.refused("seat(max, 0)", x, before, x.seat(Integer.MAX_VALUE, 0), U);
        C.refused("seat(0, -1)", x, before, x.seat(0, -1), O);
        C.refused("seat(0, 6)", x, before, x.seat(0, 6), O);
        C.refused("seat(4, max)", x, before, x.seat(4, Integer.MAX_VALUE), O);
        C.refused("UNKNOWN ahead of OUTSIDE", x, before, x.seat(5, 6), U);
        C.due("seat(2, 0) of two", Checks.courtOf("s0,s1;1").seat(2, 0), U);
    }

    private static void seatCounts() {
        HeardSecond x = Checks.courtOf("w0,s1,w0,m1,w0;9");
        dueCounts("first", x, 0, 1, 0, 0, 0);
        x.breath(2);
        dueCounts("behind 1", x, 1, 1, 1, 0, 0);
        x.breath(4);
        dueCounts("behind 2", x, 0, 1, 0, 0, 0);
        x.breath(2);
        C.due("1 and 2 count", x.breath(6), 2);
        dueCounts("1 and 2 are out", x, 1, 0, 0, 0, 0);
        C.due("2 is out", x.seat(2, 2), 1);
        C.due("0 is not", x.seat(0, 2), 0);
        C.due("0 now counts as 1 is the last one though out", x.breath(31), 1);
        HeardSecond y = Checks.spoken("w0,s0,s0,e0,w0;9", 3);
        dueCounts("the WALL sits beside nobody", y, 0, 1, 1, 1, 0);
    }

    private static void dueCounts(String when, HeardSecond x, int... due) {
        for (int seat = 0; seat < due.length; seat++) {
            C.due(when + ": seat(" + seat + ", 3)", x.seat(seat, 3), due[seat]);
        }
    }

    private static void as() {
        HeardSecond x = Checks.courtOf("m0,s1,w0,e1,f0;3");
        int[][] due = {{0, 0, -1, -1, 0}, {1, -1, -1, -1, -1}, {2, 2, -1, -1, -1}, {3, -1, 3, -1, -1}, {4, -1, -1, 4, -1}};
        for (int seat = 0; seat < 5; seat++) {
            for (int kind = 0; kind < 5; kind++) {
                C.due("as(" + seat + ", " + kind + ")", x.as(seat, kind), due[seat][kind]);
            }
        }
        long before = x.digest();
        C.refused("as(5, 0)", x, before, x.as(5, 0), U);
        C.refused("as(-1, 0)", x, before, x.as(-1, 0), U);
        C.refused("as(0, 5)", x, before, x.as(0, 5), O);
        C.refused("as(0, -1)", x, before, x.as(0, -1), O);
        C.refused("as(1, min)", x, before, x.as(1, Integer.MIN_VALUE), O);
        C.refused("UNKNOWN ahead of OUTSIDE", x, before, x.as(7, 9), U);
    }

    private static void breathRefused() {
        HeardSecond none = new HeardSecond();
        C.due("no court: breath(1)", none.breath(1), O);
        C.due("no court: breath(-1)", none.breath(-1), O);
        C.due("no court: breath(0)", none.breath(0), S);
        HeardSecond x = Checks.courtOf("s0,s1,s0;3");
        long before = x.digest();
        C.refused("breath(8)", x, before, x.breath(8), O);
        C.refused("breath(9)", x, before, x.breath(9), O);
        C.refused("breath(32)", x, before, x.breath(32), O);
        C.refused("breath(-1)", x, before, x.breath(-1), O);
        C.refused("breath(min)", x, before, x.breath(Integer.MIN_VALUE), O);
        C.refused("breath(max)", x, before, x.breath(Integer.MAX_VALUE), O);
        C.due("breath(7)", x.breath(7), 3);
        C.due("breath(31) of five", Checks.courtOf("s0,s1,s0,s1,s0;1").breath(31), 5);
    }

    private static void breathWords() {
        HeardSecond x = Checks.courtOf("s0,s1,s0;3");
        step("the first word", x, 1, 1, 0, -1, 0);
        step("the second", x, 2, 1, 1, 1, 0);
        step("the last one again", x, 2, 1, 1, 1, 0);
        C.due("it counts as his", x.seat(1, 4), 2);
        step("silence", x, 0, 0, 1, 1, 1);
        step("his word ends the silence", x, 2, 1, 1, 1, 0);
        C.due("it counts as his again", x.seat(1, 4), 3);
        step("the third", x, 4, 1, 2, 2, 0);
        step("the first one again", x, 1, 1, 0, 0, 0);
        C.due("words of 0", x.seat(0, 4), 2);
        C.due("words of 2", x.seat(2, 4), 1);
        C.due("breaths", x.count(8), 7);
    }

    private static void step(String what, HeardSecond x, int who, int counting, int last, int believed, int silence) {
        C.due(what + ": breath(" + who + ")", x.breath(who), counting);
        C.due(what + ": LAST", x.count(2), last);
        C.due(what + ": BELIEVED", x.count(3), believed);
        C.due(what + ": SILENCE", x.count(4), silence);
    }

    private static void breathWallAndFriends() {
        HeardSecond x = Checks.courtOf("f0,s1,e0,f1;3");
        step("a FRIEND first", x, 1, 1, 0, -1, 0);
        step("a FRIEND second", x, 8, 1, 3, 2, 0);
        step("the FRIEND of number 0", x, 1, 1, 0, 3, 0);
        step("the ECHOER", x, 4, 1, 5, -1, 0);
        step("the ECHOER behind the WALL", x, 4, 1, 5, -1, 0);
        C.due("words of the ECHOER", x.seat(2, 4), 2);
        step("a SPEAKER behind the WALL", x, 2, 1, 1, 1, 0);
        step("the FRIEND behind him", x, 8, 1, 3, 2, 0);
        HeardSecond y = Checks.courtOf("s0,e1;3");
        step("an ECHOER first", y, 2, 1, 5, -1, 0);
        step("second to the WALL", y, 1, 1, 0, 0, 0);
    }

    private static void breathOut() {
        HeardSecond x = Checks.courtOf("s0,s1,s0,m1;3");
        step("a word", x, 1, 1, 0, -1, 0);
        step("silence", x, 0, 0, 0, -1, 1);
        step("two count", x, 3, 2, 0, -1, 0);
        C.due("0 is OUT", x.seat(0, 2), 1);
        C.due("1 is OUT", x.seat(1, 2), 1);
        C.due("2 is not", x.seat(2, 2), 0);
        C.due("no word of 1", x.seat(1, 4), 0);
        step("of the others one", x, 15, 1, 2, 2, 0);
        step("just those who are OUT", x, 3, 0, 2, 2, 1);
        step("just the MUTE one", x, 8, 0, 2, 2, 2);
        HeardSecond y = Checks.courtOf("s0,m1;9");
        C.due("a MUTE one makes nobody OUT", y.breath(3), 1);
        C.due("nor is he", y.seat(1, 2), 0);
    }

    private static void breathWhispers() {
        HeardSecond x = Checks.courtOf("w0,s1,w0,s1,w0;9");
        step("a whisper to nobody", x, 1, 0, -1, -1, 1);
        step("1 speaks", x, 2, 1, 1, -1, 0);
        step("4 is not near", x, 16, 0, 1, -1, 1);
        step("2 is near, behind", x, 4, 1, 2, 2, 0);
        step("a whisperer is not beside himself", x, 4, 0, 2, 2, 1);
        step("3 speaks", x, 8, 1, 3, 3, 0);
        step("2 is near, ahead; 0 is not", x, 5, 1, 2, 2, 0);
        step("3 speaks again", x, 8, 1, 3, 3, 0);
        C.due("2 and 4 are near: both are OUT", x.breath(21), 2);
        C.due("0 is not OUT", x.seat(0, 2), 0);
        C.due("4 is OUT", x.seat(4, 2), 1);
    }

    private static void breathSilence() {
        HeardSecond x = Checks.courtOf("s0,s1,s0;2");
        x.breath(1);
        x.breath(2);
        x.breath(5);
        step("silence 1", x, 0, 0, 1, 1, 1);
        step("silence 2 ends the case", x, 0, 0, -1, -1, 0);
        dueCases("SIDE 1 won", x, 1, 0, 1);
        C.due("nobody is OUT", x.seat(0, 2), 0);
        C.due("words stay", x.seat(1, 4), 1);
        C.due("breaths stay", x.count(8), 5);
        x.breath(0);
        x.breath(0);
        dueCases("lost to both", x, 2, 0, 1);
        x.breath(2);
        x.breath(0);
        x.breath(0);
        dueCases("lost to both with a LAST one", x, 3, 0, 1);
        x.breath(2);
        x.breath(4);
        x.breath(0);
        x.breath(3);
        x.breath(0);
        dueCases("two who count end the row of silence", x, 3, 0, 1);
        x.breath(3);
        dueCases("SIDE 0 won", x, 4, 1, 1);
        HeardSecond y = Checks.courtOf("s0,s1;9");
        for (int silence = 1; silence <= 8; silence++) {
            step("silence " + silence, y, 0, 0, -1, -1, silence);
        }
        step("silence 9", y, 0, 0, -1, -1, 0);
        dueCases("patience 9", y, 1, 0, 0);
        HeardSecond z = Checks.courtOf("e0,f1;1");
        z.breath(1);
        z.breath(2);
        C.due("the friend of the echoer", z.count(3), 0);
        z.breath(0);
        dueCases("patience 1, the SIDE of who is BELIEVED", z, 1, 1, 0);
    }

    private static void dueCases(String when, HeardSecond x, int ended, int wonBy0, int wonBy1) {
        C.due(when + ": count(5)", x.count(5), ended);
        C.due(when + ": count(6)", x.count(6), wonBy0);
        C.due(when + ": count(7)", x.count(7), wonBy1);
    }
}
