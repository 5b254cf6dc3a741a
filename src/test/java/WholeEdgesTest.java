import java.math.BigInteger;

/** Promises 16 to 19 and the terms they stand on, edge by edge: each told by the document's own words. */
public final class WholeEdgesTest {
    private static final int N = HeardSecond.NONE, U = HeardSecond.UNKNOWN, O = HeardSecond.OUTSIDE;
    private static final int S = HeardSecond.STATE, F = HeardSecond.FULL;
    private static final Checks C = new Checks();

    public static void main(String[] args) {
        constants();
        lastCall();
        imageKeeps();
        imageKeepsNothingElse();
        imageLatest();
        restoreRefused();
        countEdges();
        countGoesOn();
        countRefused();
        digestEmpty();
        digestPage();
        digestWraps();
        digestSeats();
        digestNumbers();
        C.end();
    }

    private static void constants() {
        C.sentence("public static final int NONE = -1, UNKNOWN = -101, OUTSIDE = -102, STATE = -103, FULL = -104;");
        C.due("NONE", N, -1);
        C.due("UNKNOWN", U, -101);
        C.due("OUTSIDE", O, -102);
        C.due("STATE", S, -103);
        C.due("FULL", F, -104);
    }

    private static void lastCall() {
        C.sentence("An object is used for at most 512 calls after it has been made;");
        HeardSecond x = Checks.courtOf("s0,s1;9");
        for (int call = 9; call < 511; call++) {
            C.due("call " + call, x.breath(1 << call % 2), 1);
        }
        C.due("call 511", x.seat(0, 4), 251);
        C.due("call 512", x.count(8), 502);
        HeardSecond silent = Checks.courtOf("s0,s1;1");
        for (int call = 9; call < 512; call++) {
            silent.breath(0);
        }
        C.due("call 512", silent.count(5), 503);
    }

    // ---- the IMAGE

    private static void imageKeeps() {
        C.sentence("An IMAGE keeps the LAST one, who is BELIEVED, who is OUT, SILENCE, how many CASES ended, "
            + "were won by whom, BREATHS, how many WORDS each spoke, HEARD.");
        String text = "s0,s1,s0,e1,f0;2";
        keeps("the LAST one", text, new int[] {1}, 0, new int[] {2, 8});
        keeps("nobody as the LAST one", text, new int[] {}, 0, new int[] {4});
        keeps("the WALL as the LAST one", text, new int[] {8}, 0, new int[] {4});
        keeps("who is BELIEVED", text, new int[] {1, 2}, 0, new int[] {4});
        keeps("who is BELIEVED by a FRIEND", text, new int[] {1, 16}, 0, new int[] {8});
        keeps("who is OUT", text, new int[] {1, 6}, 0, new int[] {9});
        keeps("nobody OUT", text, new int[] {1}, 0, new int[] {6, 24});
        keeps("SILENCE", text, new int[] {1, 0}, 0, new int[] {2});
        keeps("no SILENCE", text, new int[] {1}, 0, new int[] {0});
        keeps("CASES", text, new int[] {0, 0}, 0, new int[] {0, 0, 0, 0});
        keeps("CASES that SIDE 0 won", text, new int[] {2, 1, 0, 0}, 0, new int[] {2, 1, 0, 0});
        keeps("CASES that SIDE 1 won", text, new int[] {1, 2, 0, 0}, 0, new int[] {1, 2, 0, 0});
        keeps("WORDS", text, new int[] {1, 1, 2, 4, 16}, 0, new int[] {1, 2, 4, 8, 16});
        keeps("HEARD", text, new int[] {1}, 1, new int[] {2});
        keeps("much HEARD", text, new int[] {1}, 5, new int[] {2});
        keeps("as much HEARD as can be", text, new int[] {}, 8, new int[] {2, 0, 0});
    }

    /** The object goes on behind its IMAGE and comes back; a twin stays there. Both then go on alike. */
    private static void keeps(String what, String text, int[] ahead, int told, int[] behind) {
        HeardSecond x = Checks.breathed(text, ahead);
        HeardSecond twin = Checks.breathed(text, ahead);
        for (int some = 0; some < told; some++) {
            x.hear(2 - some % 3, N);
            twin.hear(2 - some % 3, N);
        }
        C.due(what + ": image()", x.image(), ahead.length);
        C.due(what + ": behind image()", x.digest(), twin.digest());
        for (int who : behind) {
            x.breath(who);
        }
        C.due(what + ": another one then", x.digest() == twin.digest() ? 1 : 0, 0);
        C.due(what + ": restore()", x.restore(), ahead.length);
        C.due(what + ": behind restore()", x.digest(), twin.digest());
        x.forget();
        x.hear(1, 0);
        x.breath(1);
        C.due(what + ": restore() again", x.restore(), ahead.length);
        C.due(what + ": behind the second restore()", x.digest(), twin.digest());
        for (int who = 31; who >= 0; who -= 5) {
            C.due(what + ": going on", x.breath(who), twin.breath(who));
            C.due(what + ": going on", x.digest(), twin.digest());
        }
    }

    private static void imageKeepsNothingElse() {
        HeardSecond x = Checks.courtOf("s0,s1;9");
        Checks.type(x, "w0");
        x.image();
        Checks.type(x, ",e");
        x.restore();
        C.due("THE PAGE stays: letters", x.count(10), 4);
        C.due("THE PAGE stays: fault()", x.fault(), 4);
        C.due("COURTS read", x.count(11), 1);
    }

    private static void imageLatest() {
        C.sentence("An IMAGE is kept (one; the latest): how many BREATHS there were. STATE: no COURT.");
        HeardSecond none = new HeardSecond();
        C.refused("no COURT", none, none.digest(), none.image(), S);
        Checks.type(none, "s0,s1;1");
        C.refused("a COURT that is not read", none, none.digest(), none.image(), S);
        HeardSecond x = Checks.courtOf("s0,s1;9");
        for (int breaths = 0; breaths <= 20; breaths++) {
            C.due("image()", x.image(), breaths);
            x.breath(1 << breaths % 2);
        }
        C.due("the latest", x.restore(), 20);
        C.due("its WORDS of 0", x.seat(0, 4), 10);
        C.due("there is one alone", x.restore(), 20);
        C.due("image() behind restore()", x.image(), 20);
        x.breath(0);
        C.due("BREATHS of SILENCE are told, too", x.image(), 21);
    }

    private static void restoreRefused() {
        C.sentence("It goes on from the IMAGE: how many BREATHS there were. STATE: none was kept, or there is another COURT since.");
        HeardSecond x = new HeardSecond();
        C.refused("no COURT", x, x.digest(), x.restore(), S);
        Checks.type(x, "s0,s1;9");
        x.court();
        C.refused("none was kept", x, x.digest(), x.restore(), S);
        x.breath(1);
        C.refused("none was kept", x, x.digest(), x.restore(), S);
        C.due("image()", x.image(), 1);
        C.due("restore()", x.restore(), 1);
        x.court();
        C.due("behind a refused court()", x.restore(), 1);
        x.blank();
        x.forget();
        C.due("behind blank() and forget()", x.restore(), 1);
        Checks.type(x, "s0,s1;9");
        C.due("before the like COURT is read", x.restore(), 1);
        x.court();
        C.refused("another COURT since", x, x.digest(), x.restore(), S);
        C.due("BREATHS of it", x.count(8), 0);
        C.due("image() of it", x.image(), 0);
        C.due("restore() of it", x.restore(), 0);
    }

    // ---- count

    private static void countEdges() {
        C.sentence("How many: 0 SEATS, 1 PATIENCE (0: no COURT), 2 the number of the LAST one (5 the WALL, NONE: nobody), "
            + "3 of who is BELIEVED (NONE)");
        HeardSecond none = new HeardSecond();
        int[] due = {0, 0, N, N, 0, 0, 0, 0, 0, 0, 0, 0};
        for (int what = 0; what < 12; what++) {
            C.due("no COURT: count(" + what + ")", none.count(what), due[what]);
        }
        HeardSecond x = Checks.courtOf("s0,s1,s0,f1,e0;9");
        C.due("nobody", x.count(2), N);
        x.breath(8);
        C.due("a SEAT", x.count(2), 3);
        C.due("nobody is BELIEVED", x.count(3), N);
        x.breath(1);
        C.due("SEAT 0", x.count(2), 0);
        C.due("SEAT 0 is BELIEVED", x.count(3), 0);
        x.breath(8);
        C.due("the LAST one", x.count(2), 3);
        C.due("the number of another one is BELIEVED", x.count(3), 2);
        x.breath(16);
        C.due("the WALL", x.count(2), 5);
        C.due("then nobody is BELIEVED", x.count(3), N);
    }

    /** What count() tells for 4 to 9, call by call. */
    private static void countGoesOn() {
        C.sentence(", 4 BREATHS of SILENCE in a row, 5 CASES that ended, 6 and 7 that SIDE 0, 1 won, 8 BREATHS, "
            + "9 what was HEARD, 10 letters of THE PAGE, 11 how often a COURT was read.");
        HeardSecond x = Checks.courtOf("s0,s1,s0;2");
        tells("new", x, 0, 0, 0, 0, 0, 0);
        breathes(x, 0, 1, 0, 0, 0, 1, 0);
        breathes(x, 1, 0, 0, 0, 0, 2, 0);
        breathes(x, 0, 1, 0, 0, 0, 3, 0);
        breathes(x, 1, 0, 0, 0, 0, 4, 0);
        breathes(x, 0, 1, 0, 0, 0, 5, 0);
        breathes(x, 6, 0, 0, 0, 0, 6, 0);
        breathes(x, 4, 1, 0, 0, 0, 7, 0);
        x.hear(0, N);
        tells("hear(0, NONE)", x, 1, 0, 0, 0, 7, 1);
        breathes(x, 0, 0, 1, 0, 0, 8, 1);
        breathes(x, 4, 0, 1, 0, 0, 9, 1);
        breathes(x, 1, 0, 1, 0, 0, 10, 1);
        breathes(x, 0, 1, 1, 0, 0, 11, 1);
        breathes(x, 0, 0, 2, 1, 0, 12, 1);
        x.hear(8, 2);
        tells("hear(8, 2)", x, 0, 2, 1, 0, 12, 2);
        breathes(x, 1, 0, 2, 1, 0, 13, 2);
        breathes(x, 2, 0, 2, 1, 0, 14, 2);
        breathes(x, 0, 1, 2, 1, 0, 15, 2);
        breathes(x, 0, 0, 3, 1, 1, 16, 2);
        x.breath(8);
        tells("a refused breath()", x, 0, 3, 1, 1, 16, 2);
        x.sessions(60, 1, 0);
        tells("sessions()", x, 0, 3, 1, 1, 16, 2);
        x.forget();
        tells("forget()", x, 0, 3, 1, 1, 16, 0);
    }

    private static void breathes(HeardSecond x, int who, int... due) {
        x.breath(who);
        tells("breath(" + who + ")", x, due);
    }

    private static void tells(String call, HeardSecond x, int... due) {
        for (int what = 4; what <= 9; what++) {
            C.due("behind " + call + ": count(" + what + ")", x.count(what), due[what - 4]);
        }
    }

    private static void countRefused() {
        C.sentence("10 letters of THE PAGE, 11 how often a COURT was read. OUTSIDE.");
        HeardSecond x = Checks.spoken("s0,s1;9", 0, 1);
        long before = x.digest();
        for (int what : new int[] {-1, 12, 13, Integer.MIN_VALUE, Integer.MAX_VALUE}) {
            C.refused("count(" + what + ")", x, before, x.count(what), O);
            C.due("no COURT: count(" + what + ")", new HeardSecond().count(what), O);
        }
        HeardSecond page = new HeardSecond();
        for (int letters = 0; letters <= 19; letters++) {
            C.due("letters", page.count(10), Math.min(letters, 18));
            page.letter('s');
        }
        HeardSecond often = new HeardSecond();
        for (int courts = 1; courts <= 20; courts++) {
            Checks.type(often, "s0,s1;9");
            often.court();
            C.due("COURTS read", often.count(11), courts);
            often.court();
            C.due("a refused one is not read", often.count(11), courts);
        }
    }

    // ---- digest

    /** By numbers that do not wrap, and their rest then: the document's wrapping told another way. */
    private static long sum(int... numbers) {
        BigInteger h = BigInteger.valueOf(907);
        for (int number : numbers) {
            h = h.multiply(BigInteger.valueOf(31)).add(BigInteger.valueOf(number));
        }
        return h.longValue();
    }

    private static void digestEmpty() {
        C.sentence("h is 907, then for each of these numbers, in order, 31 times h, and it (as longs, wrapping)");
        C.due("no COURT, an empty PAGE", new HeardSecond().digest(), sum(0, 0, N, N, 0, 0, 0, 0, 0, 0, 0, 0));
    }

    private static void digestPage() {
        C.sentence("letters of THE PAGE, each by its code; what count() tells for 0 to 11.");
        for (int letters = 0; letters <= 18; letters++) {
            int[] numbers = new int[letters + 12];
            HeardSecond x = new HeardSecond();
            for (int letter = 0; letter < letters; letter++) {
                numbers[letter] = letter % 2 == 0 ? 1 + letter : 126 - letter;
                x.letter(numbers[letter]);
            }
            numbers[letters + 2] = N;
            numbers[letters + 3] = N;
            numbers[letters + 10] = letters;
            C.due("a PAGE of " + letters, x.digest(), sum(numbers));
        }
        C.due("by its code: the least", Checks.pageOf("\u0001").digest(), sum(1, 0, 0, N, N, 0, 0, 0, 0, 0, 0, 1, 0));
        C.due("by its code: the greatest", Checks.pageOf("~").digest(), sum(126, 0, 0, N, N, 0, 0, 0, 0, 0, 0, 1, 0));
    }

    private static void digestWraps() {
        C.sentence("(as longs, wrapping)");
        int negative = 0;
        for (int seats = 2; seats <= 5; seats++) {
            for (int patience = 1; patience <= 9; patience++) {
                HeardSecond x = Checks.courtOf(Checks.courtText("swfes".substring(0, seats), patience));
                C.due("digest() of " + seats + ", " + patience, x.digest(), sum(numbers(x)));
                negative += x.digest() < 0 ? 1 : 0;
            }
        }
        C.due("some are negative", negative > 0 ? 1 : 0, 1);
    }

    /** What the document tells to take, asked of the object itself. */
    private static int[] numbers(HeardSecond x) {
        int[] numbers = new int[7 * x.count(0) + 8 + 10 + 1 + 12];
        int at = 0;
        for (int seat = 0; seat < x.count(0); seat++) {
            for (int what = 0; what <= 5; what++) {
                numbers[at++] = x.seat(seat, what);
            }
            numbers[at++] = x.get(seat, 1);
        }
        for (int breaths = 1; breaths <= 4; breaths++) {
            numbers[at++] = x.play(breaths, 0);
            numbers[at++] = x.play(breaths, 1);
        }
        for (int words = 0; words <= 4; words++) {
            numbers[at++] = x.rows(words, 0);
            numbers[at++] = x.rows(words, 1);
        }
        numbers[at++] = x.when();
        for (int what = 0; what <= 11; what++) {
            numbers[at++] = x.count(what);
        }
        return numbers;
    }

    /** In courts where nobody counts one number alone is another one, and its place is told by what it adds. */
    private static void digestSeats() {
        C.sentence(": of each SEAT what seat() tells for 0 to 5, who first by get();");
        // Behind the SEATS come 8 numbers by play(), 10 by rows(), 1 by when(), and 12 by count().
        int behindSeats = 31;
        for (int seats = 2; seats <= 5; seats++) {
            String mute = "m0,m0,m0,m0,m0".substring(0, 3 * seats - 1);
            long all = Checks.courtOf(mute + ";9").digest();
            for (int seat = 0; seat < seats; seat++) {
                int behind = behindSeats + 7 * (seats - 1 - seat);
                long side = Checks.courtOf(seated(mute, seat, "m1")).digest();
                C.due("the SIDE of " + seat + " of " + seats, side - all, power(behind + 5));
                long kind = Checks.courtOf(seated(mute, seat, "w0")).digest();
                C.due("the KIND of " + seat + " of " + seats, kind - all, -3 * power(behind + 6));
            }
        }
        HeardSecond x = Checks.spoken("m0,s0;9", 1);
        long before = x.digest();
        x.breath(2);
        C.due("WORDS of 1, and BREATHS", x.digest() - before, power(behindSeats + 2) + power(3));
    }

    private static String seated(String court, int seat, String who) {
        return court.substring(0, 3 * seat) + who + court.substring(3 * seat + 2) + ";9";
    }

    private static void digestNumbers() {
        C.sentence("with a COURT (all up to the next semicolon) what play() tells of 1 to 4 BREATHS, each for 0 and 1, "
            + "ROWS of 0 to 4 WORDS, each for 0 and 1, WHEN;");
        String[] texts = {"s0,s1;9", "w0,s1,f0;2", "s0,w0,w0,s0;9", "e0,s1,m0,f1,s0;1"};
        for (String text : texts) {
            HeardSecond x = Checks.courtOf(text);
            C.due("new: " + text, x.digest(), sum(numbers(x)));
            for (int who = 1; who < 1 << x.count(0); who = who * 2 + 1) {
                x.breath(who);
                x.hear(2, N);
                C.due("going on: " + text, x.digest(), sum(numbers(x)));
            }
        }
        HeardSecond five = Checks.courtOf("s0,s1;9");
        long before = five.digest();
        five.hear(5, N);
        C.due("HEARD of 5: WHEN is none, not 2, and count(9)", five.digest() - before, (N - 2) * power(12) + power(2));
        HeardSecond seven = Checks.courtOf("s0,s1;9");
        seven.hear(7, N);
        C.due("HEARD of 7: count(9) alone", seven.digest() - before, power(2));
    }

    /** What one more counts for that has so many numbers behind it. */
    private static long power(int behind) {
        return BigInteger.valueOf(31).pow(behind).longValue();
    }
}
