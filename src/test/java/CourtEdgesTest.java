/** Promises 1 to 8 and the terms they stand on, edge by edge: each told by the document's own words. */
public final class CourtEdgesTest {
    private static final int N = HeardSecond.NONE, U = HeardSecond.UNKNOWN, O = HeardSecond.OUTSIDE;
    private static final int S = HeardSecond.STATE, F = HeardSecond.FULL;
    private static final int WALL = 5;
    private static final String[] SPEAKERS = {"", "", "ss", "sss", "ssss", "sssss"};
    private static final Checks C = new Checks();

    public static void main(String[] args) {
        newObject();
        seatsOfACourt();
        signsOfACourt();
        patienceOfACourt();
        kinds();
        atFirst();
        lastAgain();
        believed();
        friends();
        firstWord();
        walls();
        near();
        notCounting();
        justOne();
        moreThanOne();
        silence();
        silenceInARow();
        whoWins();
        nextCase();
        letter();
        blank();
        fault();
        court();
        anotherCourt();
        seat();
        as();
        breath();
        C.end();
    }

    private static void newObject() {
        C.sentence("At first there is none.");
        HeardSecond typed = Checks.pageOf("s0,s1;9");
        C.due("a COURT that is not read: SEATS", typed.count(0), 0);
        C.due("a COURT that is not read: breath(0)", typed.breath(0), S);
        C.due("it is read", typed.court(), 2);
        C.sentence("`HeardSecond()`: No COURT.");
        HeardSecond x = new HeardSecond();
        C.due("SEATS", x.count(0), 0);
        C.due("PATIENCE", x.count(1), 0);
        C.due("COURTS read", x.count(11), 0);
        C.due("letters of THE PAGE", x.count(10), 0);
        C.stands("new", x, N, N, 0);
        C.due("seat(0, 0)", x.seat(0, 0), U);
        C.due("as(0, 0)", x.as(0, 0), U);
        C.due("get(0, 0)", x.get(0, 0), U);
        C.due("breath(0)", x.breath(0), S);
        C.due("image()", x.image(), S);
    }

    // ---- a COURT as a text

    private static void seatsOfACourt() {
        C.sentence("A COURT is a text: two to five SEATS (numbered from 0)");
        C.due("one SEAT: fault()", Checks.pageOf("s0;1").fault(), 2);
        C.due("one SEAT: court()", Checks.pageOf("s0;1").court(), S);
        for (int seats = 2; seats <= 5; seats++) {
            String text = Checks.courtText(SPEAKERS[seats], 1);
            HeardSecond x = Checks.pageOf(text);
            C.due(text + ": fault()", x.fault(), text.length());
            C.due(text + ": court()", x.court(), seats);
            C.due(text + ": SEATS", x.count(0), seats);
            C.due(text + ": its SEAT 0", x.seat(0, 1), 0);
            C.due(text + ": its greatest SEAT", x.seat(seats - 1, 1), (seats - 1) % 2);
            C.due(text + ": one more", x.seat(seats, 1), U);
            C.due(text + ": one less than 0", x.seat(-1, 1), U);
        }
        C.due("six SEATS: fault()", Checks.pageOf("s0,s1,s0,s1,s0,s1;").fault(), 14);
        C.due("six SEATS: court()", Checks.pageOf("s0,s1,s0,s1,s0,s1;").court(), S);
    }

    /** Behind this beginning of a COURT each code: just the allowed ones go on in one. */
    private static void sweep(String ahead, String allowed) {
        for (int code = 1; code <= 126; code++) {
            HeardSecond x = Checks.pageOf(ahead);
            x.letter(code);
            int due = ahead.length() + (allowed.indexOf(code) >= 0 ? 1 : 0);
            C.due("fault() with the code " + code + " behind \"" + ahead + "\"", x.fault(), due);
        }
    }

    private static void signsOfACourt() {
        C.sentence("with \",\" between");
        sweep("s0", ",");
        sweep("s0,s1", ",;");
        sweep("s0,s1,s0,s1", ",;");
        sweep("s0,s1,s0,s1,s0", ";");
        C.sentence("each a letter, the KIND of who sits there");
        sweep("", "swefm");
        sweep("s0,", "swefm");
        sweep("s0,s1,s0,s1,", "swefm");
        C.sentence("and a digit SIDE (0, 1)");
        sweep("s", "01");
        sweep("s0,m", "01");
        sweep("s0,s1,s0,s1,f", "01");
        C.due("SIDE 0", Checks.courtOf("s0,s1;1").seat(0, 1), 0);
        C.due("SIDE 1", Checks.courtOf("s0,s1;1").seat(1, 1), 1);
        C.due("SIDE 1 of SEAT 4", Checks.courtOf("s0,s0,s0,s0,s1;1").seat(4, 1), 1);
        C.due("a SIDE of 2: court()", Checks.pageOf("s0,s2;1").court(), S);
    }

    private static void patienceOfACourt() {
        C.sentence("; then \";\" and a digit PATIENCE (1 to 9).");
        sweep("s0,s1,s0", ",;");
        sweep("s0,s1;", "123456789");
        sweep("s0,s1,s0,s1,s0;", "123456789");
        for (int patience = 1; patience <= 9; patience++) {
            C.due("PATIENCE of two SEATS", Checks.courtOf(Checks.courtText("ss", patience)).count(1), patience);
            C.due("PATIENCE of five SEATS", Checks.courtOf(Checks.courtText("smwef", patience)).count(1), patience);
        }
        C.due("a PATIENCE of 0: court()", Checks.pageOf("s0,s1;0").court(), S);
        C.due("one behind 9: court()", Checks.pageOf("s0,s1;:").court(), S);
        C.due("no PATIENCE: court()", Checks.pageOf("s0,s1;").court(), S);
        C.due("a PATIENCE of 10: court()", Checks.pageOf("s0,s1;10").court(), S);
    }

    private static void kinds() {
        C.sentence("KINDS are told by the letter: 0 SPEAKER \"s\", 1 WHISPERER \"w\", 2 ECHOER \"e\", 3 FRIEND \"f\", 4 MUTE \"m\".");
        for (int kind = 0; kind < 5; kind++) {
            char letter = "swefm".charAt(kind);
            C.due("KIND of " + letter, Checks.courtOf(letter + "0,s1;1").seat(0, 0), kind);
            C.due("KIND of " + letter, Checks.courtOf("s0,s0,s0,s0," + letter + "1;1").seat(4, 0), kind);
        }
        C.sentence("All are SPEAKERS; a MUTE one is a WHISPERER, too.");
        for (int kind = 0; kind < 5; kind++) {
            HeardSecond x = Checks.courtOf("s0,s0," + "swefm".charAt(kind) + "0;1");
            for (int as = 0; as < 5; as++) {
                boolean is = as == 0 || as == kind || as == 1 && kind == 4;
                C.due("KIND " + kind + " as " + as, x.as(2, as), is ? 2 : N);
            }
        }
    }

    // ---- a CASE, BREATH by BREATH

    private static void atFirst() {
        C.sentence("In a CASE there is the LAST one who spoke (a SEAT, or the WALL; at first nobody), "
            + "and who is BELIEVED (at first nobody); some are OUT (at first nobody).");
        for (int seats = 2; seats <= 5; seats++) {
            HeardSecond x = Checks.courtOf(Checks.courtText(SPEAKERS[seats], 1));
            C.stands("at first", x, N, N, 0);
            C.due("OUT at first", Checks.out(x), 0);
            C.due("all would count", Checks.counting(x), (1 << seats) - 1);
        }
        HeardSecond x = Checks.spoken("s0,s1,s0,s1,e0;9", 0);
        C.due("SEAT 0 is the LAST one", x.count(2), 0);
        x.breath(16);
        C.due("the WALL is", x.count(2), WALL);
        x.breath(8);
        C.due("SEAT 3 is", x.count(2), 3);
    }

    private static void lastAgain() {
        C.sentence("if he is the LAST one, nothing changes by it (but it counts as his, and ends a row of SILENCE)");
        HeardSecond x = Checks.breathed("s0,s1,s0;3", 1, 0, 0);
        C.due("the first one again", x.breath(1), 1);
        C.stands("the first one again is not second", x, 0, N, 0);
        C.due("it counts as his", x.seat(0, 4), 2);
        x.breath(2);
        x.breath(0);
        x.breath(2);
        C.stands("who is BELIEVED again", x, 1, 1, 0);
        C.due("it counts as his", x.seat(1, 4), 2);
        C.due("and not as another's", x.seat(0, 4), 2);
        C.due("nobody is OUT by it", Checks.out(x), 0);
        HeardSecond f = Checks.spoken("s0,s1,f0;3", 0, 2, 2);
        C.stands("a FRIEND again", f, 2, 1, 0);
        C.due("words of the FRIEND", f.seat(2, 4), 2);
        C.due("words of who is BELIEVED by him", f.seat(1, 4), 0);
        HeardSecond o = Checks.breathed("s0,s1,s0;3", 1, 6, 0, 1);
        C.stands("with others OUT", o, 0, N, 0);
        C.due("these stay OUT", Checks.out(o), 6);
        HeardSecond row = Checks.breathed("s0,s1;2", 1, 0, 1, 0);
        C.cases("SILENCE, his word, SILENCE", row, 0, 0, 0);
        row.breath(0);
        C.cases("SILENCE once more", row, 1, 0, 0);
    }

    private static void believed() {
        C.sentence("else, if there is a LAST one, he is BELIEVED");
        for (int seats = 2; seats <= 5; seats++) {
            for (int last = 0; last < seats; last++) {
                for (int second = 0; second < seats; second++) {
                    if (second != last) {
                        HeardSecond x = Checks.spoken(Checks.courtText(SPEAKERS[seats], 9), last, second);
                        C.stands(second + " behind " + last + " of " + seats, x, second, second, 0);
                        x.breath(1 << last);
                        C.stands("the third one is second to the second", x, last, last, 0);
                    }
                }
            }
        }
        HeardSecond w = Checks.spoken("s0,e0,s1;9", 1, 2);
        C.stands("second to the WALL", w, 2, 2, 0);
        HeardSecond o = Checks.breathed("s0,s1,s0;9", 1, 3, 4);
        C.stands("second to one who is OUT", o, 2, 2, 0);
    }

    private static void friends() {
        C.sentence("(for a FRIEND, the SEAT of 1 less is, for that of number 0 the greatest one)");
        for (int seats = 2; seats <= 5; seats++) {
            for (int friend = 0; friend < seats; friend++) {
                StringBuilder kinds = new StringBuilder(SPEAKERS[seats]);
                kinds.setCharAt(friend, 'f');
                for (int last = 0; last < seats; last++) {
                    if (last != friend) {
                        HeardSecond x = Checks.spoken(Checks.courtText(kinds.toString(), 9), last, friend);
                        int due = friend == 0 ? seats - 1 : friend - 1;
                        C.stands("the FRIEND " + friend + " of " + seats + " behind " + last, x, friend, due, 0);
                    }
                }
            }
        }
        C.due("a MUTE one by his FRIEND", Checks.spoken("f0,s1,m1;9", 1, 0).count(3), 2);
        C.due("one who is OUT by his FRIEND", Checks.breathed("s0,s1,f0;9", 1, 3, 4).count(3), 1);
        C.due("behind the WALL", Checks.spoken("f0,s1,e1;9", 2, 0).count(3), 2);
    }

    private static void firstWord() {
        C.sentence("if there is none, nobody is; he is the LAST one then.");
        String[] courts = {"s0,s1;9", "f0,s1;9", "s0,s1,s0,s1,s0;9", "s0,s1,s0,s1,f0;9"};
        for (String text : courts) {
            int seats = Checks.courtOf(text).count(0);
            for (int seat = 0; seat < seats; seat++) {
                C.stands("the first word, by " + seat + " of " + text, Checks.spoken(text, seat), seat, N, 0);
            }
        }
        HeardSecond x = Checks.breathed("s0,s1;1", 1, 2, 0, 2);
        C.stands("the first word of the next CASE", x, 1, N, 0);
    }

    private static void walls() {
        C.sentence("An ECHOER is answered by the WALL at once: nobody is BELIEVED then, and the WALL is the LAST one.");
        C.stands("an ECHOER first", Checks.spoken("e0,s1;9", 0), WALL, N, 0);
        C.stands("an ECHOER second", Checks.spoken("s0,e1;9", 0, 1), WALL, N, 0);
        HeardSecond x = Checks.spoken("s0,s1,s0,s1,e0;9", 0, 1, 4);
        C.stands("an ECHOER when one is BELIEVED", x, WALL, N, 0);
        C.due("a word of the ECHOER", x.seat(4, 4), 1);
        x.breath(16);
        C.stands("an ECHOER behind the WALL", x, WALL, N, 0);
        C.due("two words of the ECHOER", x.seat(4, 4), 2);
        x.breath(2);
        C.stands("one behind the WALL", x, 1, 1, 0);
        HeardSecond y = Checks.spoken("s0,e0,e1;9", 1, 2);
        C.stands("one ECHOER behind the other", y, WALL, N, 0);
    }

    private static void near() {
        C.sentence("a WHISPERER counts just if the LAST one sits right beside him (1 less, 1 more).");
        for (int seats = 2; seats <= 5; seats++) {
            for (int whisperer = 0; whisperer < seats; whisperer++) {
                StringBuilder kinds = new StringBuilder(SPEAKERS[seats]);
                kinds.setCharAt(whisperer, 'w');
                String text = Checks.courtText(kinds.toString(), 9);
                C.due("nobody spoke, " + text, Checks.courtOf(text).seat(whisperer, 3), 0);
                for (int last = 0; last < seats; last++) {
                    HeardSecond x = Checks.spoken(text, last);
                    boolean beside = last == whisperer - 1 || last == whisperer + 1;
                    C.due(last + " spoke, " + text, x.seat(whisperer, 3), beside ? 1 : 0);
                    C.due(last + " spoke, " + text + ": a BREATH", x.breath(1 << whisperer), beside ? 1 : 0);
                }
            }
        }
        nearNobody();
    }

    private static void nearNobody() {
        HeardSecond himself = Checks.spoken("s0,w1,s0;9", 0, 1);
        C.stands("he whispered", himself, 1, 1, 0);
        C.due("not beside himself", himself.seat(1, 3), 0);
        HeardSecond wall = Checks.spoken("w0,w0,w0,e0,w0;9", 3);
        C.due("the WALL sits beside nobody", Checks.counting(wall), 8);
        HeardSecond out = Checks.breathed("s0,w1,s0;9", 1, 5);
        C.due("beside one who is OUT", out.seat(1, 3), 1);
    }

    private static void notCounting() {
        C.sentence("In a BREATH some open their mouths. Of these those who are OUT do not count, nor a MUTE one;");
        HeardSecond x = Checks.breathed("s0,s1,m0,s1;9", 3);
        C.due("just 3 would count", Checks.counting(x), 8);
        C.due("all open their mouths", x.breath(15), 1);
        C.stands("3 is alone", x, 3, N, 0);
        C.due("just the others", x.breath(7), 0);
        C.stands("they are silent", x, 3, N, 1);
        C.due("words of one who is OUT", x.seat(0, 4), 0);
        C.due("words of the MUTE one", x.seat(2, 4), 0);
        HeardSecond m = Checks.courtOf("m0,m1;9");
        C.due("just MUTE ones", m.breath(3), 0);
        C.due("they are not OUT", Checks.out(m), 0);
        HeardSecond near = Checks.spoken("s0,m1;9", 0);
        C.due("a MUTE one beside the LAST one", near.breath(2), 0);
    }

    /** Of five, 0 and 1 are OUT, 2 is MUTE, 3 has nobody near: whoever opens his mouth besides, just 4 can count. */
    private static void justOne() {
        C.sentence("If just one counts, he speaks a WORD:");
        for (int who = 0; who < 32; who++) {
            HeardSecond x = Checks.breathed("s0,s1,m0,w1,s0;9", 3);
            int words = who >> 4;
            C.due("breath(" + who + ")", x.breath(who), words);
            C.stands("behind breath(" + who + ")", x, words == 1 ? 4 : N, N, 1 - words);
            for (int seat = 0; seat < 5; seat++) {
                C.due("WORDS of " + seat + " behind breath(" + who + ")", x.seat(seat, 4), seat == 4 ? words : 0);
            }
            C.due("OUT behind breath(" + who + ")", Checks.out(x), 3);
        }
        HeardSecond many = Checks.breathed("s0,s1,s0;9", 1, 1, 1, 2, 5, 7);
        int[] words = {3, 2, 0};
        for (int seat = 0; seat < 3; seat++) {
            C.due("all WORDS of " + seat, many.seat(seat, 4), words[seat]);
        }
    }

    private static void moreThanOne() {
        C.sentence("If more than one count, all these are OUT.");
        for (int seats = 2; seats <= 5; seats++) {
            for (int who = 1; who < 1 << seats; who++) {
                HeardSecond x = Checks.courtOf(Checks.courtText(SPEAKERS[seats], 9));
                int many = Integer.bitCount(who);
                C.due("breath(" + who + ") of " + seats, x.breath(who), many);
                C.due("OUT by it", Checks.out(x), many > 1 ? who : 0);
                C.stands("behind it", x, many > 1 ? N : Integer.numberOfTrailingZeros(who), N, 0);
            }
        }
        HeardSecond x = Checks.breathed("s0,s1,s0,m1,w0;9", 1, 2, 31);
        C.due("the MUTE one and who is not near are not OUT", Checks.out(x), 7);
        C.stands("LAST and BELIEVED stay, though OUT", x, 1, 1, 0);
        C.due("it is no WORD", x.seat(1, 4), 1);
        HeardSecond more = Checks.breathed("s0,s1,s0,s1,s0;9", 3, 12);
        C.due("those OUT stay so", Checks.out(more), 15);
        C.due("one is left", more.breath(31), 1);
    }

    // ---- SILENCE

    private static void silence() {
        C.sentence("behind as many BREATHS of SILENCE in a row as PATIENCE tells the CASE ends");
        for (int patience = 1; patience <= 9; patience++) {
            HeardSecond x = Checks.courtOf(Checks.courtText("sms", patience));
            x.breath(1);
            for (int silence = 1; silence < patience; silence++) {
                C.due("nobody counts", x.breath(silence % 2 == 0 ? 0 : 2), 0);
                C.stands("SILENCE of " + patience, x, 0, N, silence);
                C.cases("SILENCE of " + patience, x, 0, 0, 0);
            }
            x.breath(0);
            C.cases("SILENCE, as PATIENCE tells", x, 1, 0, 0);
            C.stands("SILENCE, as PATIENCE tells", x, N, N, 0);
            for (int silence = 0; silence < patience; silence++) {
                x.breath(0);
            }
            C.cases("the next CASE ends as late", x, 2, 0, 0);
        }
        HeardSecond x = Checks.breathed("s0,s1,w0,m1,w0;9", 3, 3, 8, 4, 31);
        C.stands("who is OUT, MUTE, not near", x, N, N, 4);
    }

    private static void silenceInARow() {
        C.sentence("If none counts, it is SILENCE: behind as many BREATHS of SILENCE in a row");
        HeardSecond word = Checks.breathed("s0,s1,s0;2", 0, 1, 0);
        C.stands("a WORD between", word, 0, N, 1);
        C.cases("a WORD between", word, 0, 0, 0);
        HeardSecond two = Checks.breathed("s0,s1,s0;2", 0, 3, 0);
        C.stands("two who count between", two, N, N, 1);
        C.cases("two who count between", two, 0, 0, 0);
        two.breath(3);
        C.cases("those who are OUT between", two, 1, 0, 0);
    }

    private static void whoWins() {
        C.sentence("the SIDE of who is BELIEVED wins it (nobody: it is lost to both)");
        C.cases("SIDE 0", Checks.breathed("s0,s1;1", 2, 1, 0), 1, 1, 0);
        C.cases("SIDE 1", Checks.breathed("s0,s1;1", 1, 2, 0), 1, 0, 1);
        C.cases("nobody spoke", Checks.breathed("s0,s1;1", 0), 1, 0, 0);
        C.cases("nobody is BELIEVED", Checks.breathed("s0,s1;1", 1, 0), 1, 0, 0);
        C.cases("the WALL was the LAST one", Checks.breathed("s0,s1,e1;1", 1, 2, 4, 0), 1, 0, 0);
        C.cases("by a FRIEND of SIDE 0 for SIDE 1", Checks.breathed("s0,s1,f0;1", 1, 4, 0), 1, 0, 1);
        C.cases("a MUTE one", Checks.breathed("m0,f1,s1;1", 4, 2, 0), 1, 1, 0);
        C.cases("one who is OUT", Checks.breathed("s0,s1;1", 1, 2, 3, 0), 1, 0, 1);
        HeardSecond x = Checks.breathed("s0,s1;1", 1, 2, 0, 2, 1, 0, 1, 2, 0, 0);
        C.cases("four CASES", x, 4, 1, 2);
    }

    private static void nextCase() {
        C.sentence("the next CASE begins, as at first.");
        HeardSecond x = Checks.breathed("s0,s1,s0,s1,w0;2", 1, 2, 12, 0, 0);
        C.stands("the next CASE", x, N, N, 0);
        C.due("nobody is OUT", Checks.out(x), 0);
        C.due("who counts", Checks.counting(x), 15);
        C.due("WORDS are told on", x.seat(0, 4), 1);
        C.due("BREATHS are told on", x.count(8), 5);
        x.breath(4);
        C.stands("its first word", x, 2, N, 0);
        x.breath(0);
        C.stands("its SILENCE", x, 2, N, 1);
    }

    // ---- the calls

    private static void letter() {
        C.sentence("A letter comes behind THE PAGE, by its code: how many THE PAGE has. OUTSIDE: code (1 to 126); FULL: above 18.");
        HeardSecond x = new HeardSecond();
        long before = x.digest();
        for (int code : new int[] {0, 127, 128, 255, 256 + 's', -1, Integer.MIN_VALUE, Integer.MAX_VALUE}) {
            C.refused("letter(" + code + ")", x, before, x.letter(code), O);
        }
        C.due("letter(1)", x.letter(1), 1);
        C.due("letter(126)", x.letter(126), 2);
        for (int letters = 3; letters <= 18; letters++) {
            C.due("the letter " + letters, x.letter('s'), letters);
        }
        before = x.digest();
        C.refused("the letter 19", x, before, x.letter('s'), F);
        C.refused("the letter 19 again", x, before, x.letter(126), F);
        C.refused("OUTSIDE ahead of FULL, below", x, before, x.letter(0), O);
        C.refused("OUTSIDE ahead of FULL, above", x, before, x.letter(127), O);
        C.due("blank()", x.blank(), 18);
        C.due("a letter behind that", x.letter('s'), 1);
    }

    private static void blank() {
        C.sentence("THE PAGE is empty: how many letters it had.");
        for (int letters = 0; letters <= 18; letters++) {
            HeardSecond x = Checks.pageOf("ssssssssssssssssss".substring(0, letters));
            C.due("blank() of " + letters, x.blank(), letters);
            C.due("letters then", x.count(10), 0);
            C.due("blank() of the empty PAGE", x.blank(), 0);
            C.due("fault() of the empty PAGE", x.fault(), 0);
        }
        HeardSecond x = Checks.pageOf("s0,s1;1");
        x.blank();
        C.due("court() of what was", x.court(), S);
        HeardSecond y = Checks.spoken("s0,s1;3", 0, 1);
        Checks.type(y, "w0");
        y.blank();
        C.due("THE COURT stays", y.count(0), 2);
        C.stands("its CASE, too", y, 1, 1, 0);
    }

    private static void fault() {
        C.sentence("The place (from 0) of the first letter of THE PAGE that no COURT has there, behind those ahead of it;");
        C.due("at 0", Checks.pageOf("0").fault(), 0);
        C.due("the first of two", Checks.pageOf("s0x,s1;0").fault(), 2);
        C.due("what is right behind it does not matter", Checks.pageOf("xs0,s1;1").fault(), 0);
        C.due("18 letters, all wrong", Checks.pageOf("xxxxxxxxxxxxxxxxxx").fault(), 0);
        C.due("the least COURT, one letter more", Checks.pageOf("s0,s1;11").fault(), 7);
        C.due("the greatest COURT, one letter more", Checks.pageOf("s0,s1,s0,s1,s0;1;").fault(), 16);
        C.due("the greatest COURT, two letters more", Checks.pageOf("s0,s1,s0,s1,s0;1s0").fault(), 16);
        C.due("a fifth mark", Checks.pageOf("s0,s1,s0,s1,s0,").fault(), 14);
        C.due("an end behind one SEAT", Checks.pageOf("s0;").fault(), 2);
        C.sentence("how many letters it has, if there is none.");
        C.due("the empty PAGE", new HeardSecond().fault(), 0);
        for (String whole : new String[] {"w0,e1;9", "w0,e1,f0;9", "w0,e1,f0,m1;9", "w0,e1,f0,m1,s0;9"}) {
            for (int letters = 1; letters <= whole.length(); letters++) {
                String page = whole.substring(0, letters);
                C.due("fault() of " + page, Checks.pageOf(page).fault(), letters);
            }
        }
    }

    private static void court() {
        C.sentence("how many SEATS; THE PAGE is empty then. STATE: it is none.");
        String whole = "s0,w1,e0,f1,m0;9";
        for (int letters = 0; letters < whole.length(); letters++) {
            HeardSecond x = Checks.pageOf(whole.substring(0, letters));
            C.refused("court() of " + letters + " letters", x, x.digest(), x.court(), S);
        }
        for (String more : new String[] {whole + "s", whole + "9", whole + "s0", "xx" + whole}) {
            HeardSecond x = Checks.pageOf(more);
            C.refused("court() of " + more, x, x.digest(), x.court(), S);
            C.due("its letters stay", x.count(10), more.length());
        }
        HeardSecond x = Checks.pageOf(whole);
        C.due("court()", x.court(), 5);
        C.due("letters then", x.count(10), 0);
        C.due("fault() then", x.fault(), 0);
        C.refused("court() of the empty PAGE", x, x.digest(), x.court(), S);
        C.due("COURTS read", x.count(11), 1);
    }

    private static void anotherCourt() {
        C.sentence("THE PAGE is read as THE COURT (another one is gone, with all that was)");
        HeardSecond x = Checks.breathed("s0,s1,s0,s1,w0;2", 1, 2, 0, 0, 2, 1, 0, 0, 0, 0, 2, 1, 12, 0);
        C.cases("each SIDE won, and nobody did", x, 3, 1, 1);
        C.stands("a CASE goes on", x, 0, 0, 1);
        for (int told = 0; told < 8; told++) {
            x.hear(told, 4);
        }
        x.image();
        Checks.type(x, "s1,s0;9");
        C.due("another COURT", x.court(), 2);
        int[] due = {2, 9, N, N, 0, 0, 0, 0, 0, 0, 0, 2};
        for (int what = 0; what < due.length; what++) {
            C.due("another COURT: count(" + what + ")", x.count(what), due[what]);
        }
        C.due("nobody is OUT", Checks.out(x), 0);
        C.due("WORDS of 0", x.seat(0, 4), 0);
        C.due("WORDS of 1", x.seat(1, 4), 0);
        C.due("SEAT 2", x.seat(2, 0), U);
        C.due("its bit", x.breath(4), O);
        C.due("the IMAGE", x.restore(), S);
        C.due("hear() has room", x.hear(0, N), 1);
        C.due("ROWS are not bound by what was HEARD", x.rows(0, 0), 1);
        Checks.type(x, "w1,m0,f1,e0,s1;1");
        C.due("a greater one", x.court(), 5);
        for (int seat = 0; seat < 5; seat++) {
            C.due("KIND of " + seat, x.seat(seat, 0), new int[] {1, 4, 3, 2, 0}[seat]);
            C.due("SIDE of " + seat, x.seat(seat, 1), 1 - seat % 2);
        }
        C.due("COURTS read", x.count(11), 3);
    }

    private static void seat() {
        C.sentence("Of a SEAT: what = 0 KIND, 1 SIDE, 2 whether it is OUT (1, 0), 3 whether it would count now (1, 0), "
            + "4 how many WORDS it spoke, 5 GET (NONE).");
        HeardSecond x = Checks.breathed("s0,s1,s0,m1;9", 1, 1, 5);
        int[][] due = {{0, 0, 1, 0, 2, N}, {0, 1, 0, 1, 0, 1}, {0, 0, 1, 0, 0, N}, {4, 1, 0, 0, 0, N}};
        for (int seat = 0; seat < 4; seat++) {
            for (int what = 0; what < 6; what++) {
                C.due("seat(" + seat + ", " + what + ")", x.seat(seat, what), due[seat][what]);
            }
        }
        C.sentence("5 GET (NONE). UNKNOWN; OUTSIDE.");
        long before = x.digest();
        for (int seat : new int[] {-1, 4, 5, Integer.MIN_VALUE, Integer.MAX_VALUE}) {
            C.refused("seat(" + seat + ", 0)", x, before, x.seat(seat, 0), U);
            C.refused("seat(" + seat + ", 6)", x, before, x.seat(seat, 6), U);
            C.refused("seat(" + seat + ", -1)", x, before, x.seat(seat, -1), U);
        }
        for (int what : new int[] {-1, 6, Integer.MIN_VALUE, Integer.MAX_VALUE}) {
            C.refused("seat(0, " + what + ")", x, before, x.seat(0, what), O);
            C.refused("seat(3, " + what + ")", x, before, x.seat(3, what), O);
        }
        C.due("no COURT: seat(0, 6)", new HeardSecond().seat(0, 6), U);
    }

    private static void as() {
        C.sentence("A SEAT taken as a KIND: its own number, not that of the KIND; NONE: it is none such (the cast fails).");
        HeardSecond x = Checks.courtOf("s0,w1,e0,f1,m0;9");
        for (int seat = 0; seat < 5; seat++) {
            C.due("as(" + seat + ", SPEAKER)", x.as(seat, 0), seat);
            C.due("as(" + seat + ", its own)", x.as(seat, seat), seat);
        }
        C.due("as(4, WHISPERER)", x.as(4, 1), 4);
        C.due("as(1, MUTE)", x.as(1, 4), N);
        C.due("as(0, WHISPERER)", x.as(0, 1), N);
        C.sentence("(the cast fails). UNKNOWN; OUTSIDE.");
        long before = x.digest();
        for (int seat : new int[] {-1, 5, Integer.MIN_VALUE, Integer.MAX_VALUE}) {
            C.refused("as(" + seat + ", 0)", x, before, x.as(seat, 0), U);
            C.refused("as(" + seat + ", 5)", x, before, x.as(seat, 5), U);
            C.refused("as(" + seat + ", -1)", x, before, x.as(seat, -1), U);
        }
        for (int kind : new int[] {-1, 5, Integer.MIN_VALUE, Integer.MAX_VALUE}) {
            C.refused("as(0, " + kind + ")", x, before, x.as(0, kind), O);
            C.refused("as(4, " + kind + ")", x, before, x.as(4, kind), O);
        }
        C.due("no COURT: as(0, 5)", new HeardSecond().as(0, 5), U);
    }

    private static void breath() {
        C.sentence("A BREATH: who opens his mouth (bits of SEATS): how many count. "
            + "OUTSIDE: who (a bit that names no SEAT); STATE: no COURT.");
        for (int seats = 2; seats <= 5; seats++) {
            HeardSecond x = Checks.courtOf(Checks.courtText(SPEAKERS[seats], 9));
            long before = x.digest();
            for (int bit = seats; bit < 32; bit++) {
                C.refused("the bit " + bit + " of " + seats, x, before, x.breath(1 << bit), O);
                C.refused("the bit " + bit + " and 0 of " + seats, x, before, x.breath(1 << bit | 1), O);
            }
            C.refused("all bits", x, before, x.breath(-1), O);
            C.due("BREATHS so far", x.count(8), 0);
            C.due("no bit", x.breath(0), 0);
            C.due("all SEATS of " + seats, x.breath((1 << seats) - 1), seats);
            C.due("BREATHS then", x.count(8), 2);
        }
        HeardSecond none = new HeardSecond();
        long before = none.digest();
        C.refused("no COURT: no bit", none, before, none.breath(0), S);
        C.refused("no COURT: OUTSIDE ahead of STATE", none, before, none.breath(1), O);
        C.refused("no COURT: the bit 4", none, before, none.breath(16), O);
        C.refused("no COURT: all bits", none, before, none.breath(-1), O);
    }
}
