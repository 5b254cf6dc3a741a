/** Promises 16 to 19: image, restore, count, digest; and the constants. */
public final class WholeTest {
    private static final int O = HeardSecond.OUTSIDE, S = HeardSecond.STATE;
    private static final Checks C = new Checks();

    public static void main(String[] args) {
        constants();
        image();
        restore();
        restoreAgain();
        count();
        digestNew();
        digestOfCourt();
        twoObjects();
        C.end();
    }

    private static void constants() {
        C.due("NONE", HeardSecond.NONE, -1);
        C.due("UNKNOWN", HeardSecond.UNKNOWN, -101);
        C.due("OUTSIDE", HeardSecond.OUTSIDE, -102);
        C.due("STATE", HeardSecond.STATE, -103);
        C.due("FULL", HeardSecond.FULL, -104);
    }

    private static void image() {
        HeardSecond none = Checks.pageOf("s0,s1;1");
        long before = none.digest();
        C.refused("no court: image()", none, before, none.image(), S);
        C.refused("no court: restore()", none, before, none.restore(), S);
        HeardSecond x = Checks.courtOf("s0,s1;1");
        before = x.digest();
        C.refused("no image: restore()", x, before, x.restore(), S);
        C.due("image() of no breath", x.image(), 0);
        C.due("image() changes nothing", x.digest(), before);
        x.breath(1);
        C.due("image() of one breath", x.image(), 1);
        x.breath(2);
        C.due("the latest", x.restore(), 1);
        C.due("LAST", x.count(2), 0);
    }

    /** Each thing that an image keeps is another one when it is restored. */
    private static void restore() {
        HeardSecond x = Checks.courtOf("s0,s1,s0,s1,s0;2");
        x.breath(2);
        x.breath(1);
        x.breath(0);
        x.breath(0);
        x.breath(1);
        x.breath(4);
        x.breath(10);
        x.breath(0);
        x.hear(3, 2);
        x.hear(4, -1);
        long before = x.digest();
        C.due("image()", x.image(), 8);
        x.breath(1);
        x.breath(17);
        x.breath(0);
        x.breath(0);
        x.breath(2);
        x.breath(8);
        x.breath(0);
        x.breath(0);
        x.breath(2);
        x.forget();
        x.hear(1, 1);
        C.due("two cases more", x.count(5), 3);
        Checks.type(x, "w0,");
        C.due("restore()", x.restore(), 8);
        C.due("the page stays", x.count(10), 3);
        x.blank();
        int[] due = {5, 2, 2, 2, 1, 1, 1, 0, 8, 2, 0, 1};
        for (int what = 0; what < due.length; what++) {
            C.due("restored: count(" + what + ")", x.count(what), due[what]);
        }
        int[] out = {0, 1, 0, 1, 0};
        int[] words = {2, 1, 1, 0, 0};
        for (int seat = 0; seat < 5; seat++) {
            C.due("restored: seat(" + seat + ", 2)", x.seat(seat, 2), out[seat]);
            C.due("restored: seat(" + seat + ", 4)", x.seat(seat, 4), words[seat]);
        }
        C.due("restored: digest()", x.digest(), before);
        x.forget();
        C.due("what was HEARD is that of the image", x.restore(), 8);
        C.due("rows by it", x.digest(), before);
    }

    private static void restoreAgain() {
        HeardSecond x = Checks.courtOf("s0,s1;3");
        x.breath(1);
        x.image();
        x.breath(2);
        C.due("restore()", x.restore(), 1);
        x.breath(2);
        x.breath(1);
        x.hear(1, 1);
        C.due("restore() again", x.restore(), 1);
        C.due("the image is not touched by what came", x.count(3), -1);
        C.due("words of 1", x.seat(1, 4), 0);
        C.due("HEARD", x.count(9), 0);
        x.letter('s');
        C.due("a refused court()", x.court(), S);
        C.due("leaves the image", x.restore(), 1);
        x.blank();
        Checks.type(x, "s0,s1;3");
        C.due("the like court is another one", x.court(), 2);
        C.refused("restore() behind another court", x, x.digest(), x.restore(), S);
        C.due("image() of it", x.image(), 0);
        C.due("restore() of it", x.restore(), 0);
    }

    private static void count() {
        HeardSecond x = Checks.spoken("s0,s1,e0;7", 0, 1, 2);
        C.due("the WALL", x.count(2), 5);
        C.due("nobody believed", x.count(3), -1);
        x.breath(1);
        x.breath(0);
        x.hear(0, 0);
        x.letter('s');
        int[] due = {3, 7, 0, 0, 1, 0, 0, 0, 5, 1, 1, 1};
        for (int what = 0; what < due.length; what++) {
            C.due("count(" + what + ")", x.count(what), due[what]);
        }
        long before = x.digest();
        C.refused("count(-1)", x, before, x.count(-1), O);
        C.refused("count(12)", x, before, x.count(12), O);
        C.refused("count(min)", x, before, x.count(Integer.MIN_VALUE), O);
        C.refused("count(max)", x, before, x.count(Integer.MAX_VALUE), O);
    }

    private static long sum(long h, long... numbers) {
        for (long number : numbers) {
            h = 31 * h + number;
        }
        return h;
    }

    private static void digestNew() {
        HeardSecond x = new HeardSecond();
        C.due("new: digest()", x.digest(), sum(907, 0, 0, -1, -1, 0, 0, 0, 0, 0, 0, 0, 0));
        x.letter(7);
        x.letter(126);
        x.hear(8, -1);
        C.due("a page: digest()", x.digest(), sum(907, 7, 126, 0, 0, -1, -1, 0, 0, 0, 0, 0, 1, 2, 0));
    }

    /** Two speakers, of whom 0 has spoken: the numbers are told by hand. */
    private static void digestOfCourt() {
        HeardSecond x = Checks.spoken("s0,s1;9", 0);
        x.letter('m');
        long h = 907;
        h = sum(h, 0, 0, 0, 1, 1, 2, 1);
        h = sum(h, 0, 1, 0, 1, 0, 1, 1);
        h = sum(h, 1, -1, 0, -1, 1, -1, 0, -1);
        h = sum(h, 1, 1, 1, 2, 1, 1, 1, 2, 1, 1);
        h = sum(h, 1);
        h = sum(h, 'm');
        h = sum(h, 2, 9, 0, -1, 0, 0, 0, 0, 1, 0, 1, 1);
        C.due("digest()", x.digest(), h);
        C.due("digest() changes nothing", x.digest(), h);
    }

    private static void twoObjects() {
        HeardSecond x = Checks.courtOf("s0,s1;9");
        HeardSecond y = Checks.courtOf("w0,e1,f0;1");
        long before = y.digest();
        x.breath(1);
        x.hear(1, 1);
        x.image();
        C.due("another object is left alone", y.digest(), before);
        C.due("its image, too", y.restore(), S);
    }
}
