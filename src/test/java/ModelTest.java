import java.util.Random;

/** Promises 1 to 19: runs of calls, drawn from fixed seeds, where class and Model must answer alike. */
public final class ModelTest {
    private static final Checks C = new Checks();
    // One court more may be typed behind these, and a digest: an object is good for 512.
    private static final int MOST_CALLS = 490;
    private static final int[] ODD = {-1, 5, 6, 7, 8, 9, 18, 60, 61, Integer.MAX_VALUE, Integer.MIN_VALUE};

    public static void main(String[] args) {
        for (int seed = 0; seed < 150; seed++) {
            run(seed);
        }
        C.end();
    }

    private static void run(int seed) {
        Random random = new Random(seed);
        HeardSecond x = new HeardSecond();
        Model m = new Model();
        for (int call = 0; call < MOST_CALLS; ) {
            if (call == 0 && seed % 10 != 0 || random.nextInt(120) == 0) {
                call += type(seed, random, x, m);
            }
            one(seed + ":" + call + " ", random, x, m);
            call++;
        }
        C.due(seed + " digest()", x.digest(), m.digest());
    }

    private static int type(int run, Random random, HeardSecond x, Model m) {
        C.due(run + " blank()", x.blank(), m.blank());
        String text = courtText(random);
        for (char letter : text.toCharArray()) {
            C.due(run + " letter(" + (int) letter + ")", x.letter(letter), m.letter(letter));
        }
        C.due(run + " fault()", x.fault(), m.fault());
        C.due(run + " court()", x.court(), m.court());
        return text.length() + 3;
    }

    private static String courtText(Random random) {
        StringBuilder text = new StringBuilder();
        int seats = 2 + random.nextInt(4);
        for (int seat = 0; seat < seats; seat++) {
            text.append(seat == 0 ? "" : ",").append("sssswweeffm".charAt(random.nextInt(11))).append(random.nextInt(2));
        }
        return text.append(';').append(1 + random.nextInt(random.nextBoolean() ? 3 : 9)).toString();
    }

    private static int small(Random random, int below) {
        return random.nextInt(12) == 0 ? ODD[random.nextInt(ODD.length)] : random.nextInt(below);
    }

    private static void one(String at, Random random, HeardSecond x, Model m) {
        int a = small(random, 7);
        int b = small(random, 3);
        switch (random.nextInt(20)) {
            case 0 -> C.due(at + "letter", x.letter(code(a)), m.letter(code(a)));
            case 1 -> C.due(at + "fault()", x.fault(), m.fault());
            case 2 -> C.due(at + "court()", x.court(), m.court());
            case 3 -> C.due(at + "seat(" + a + ", " + b + ")", x.seat(a, b), m.seat(a, b));
            case 4 -> C.due(at + "as(" + b + ", " + a + ")", x.as(b, a), m.as(b, a));
            case 5, 6, 7, 8 -> breathes(at, small(random, 32), x, m);
            case 9 -> C.due(at + "breath(0)", x.breath(0), m.breath(0));
            case 10 -> C.due(at + "get(" + a + ", " + b + ")", x.get(a, b), m.get(a, b));
            case 11 -> C.due(at + "play(" + a + ", " + b + ")", x.play(a, b), m.play(a, b));
            case 12 -> hears(at, random, x, m);
            case 13 -> forgets(at, random, x, m);
            case 14 -> C.due(at + "rows(" + a + ", " + b + ")", x.rows(a, b), m.rows(a, b));
            case 15 -> C.due(at + "when()", x.when(), m.when());
            case 16 -> holdsSessions(at, small(random, 61), small(random, Integer.MAX_VALUE), b, x, m);
            case 17 -> images(at, random, x, m);
            case 18 -> C.due(at + "count(" + (a + b) + ")", x.count(a + b), m.count(a + b));
            default -> digests(at, random, x, m);
        }
    }

    private static int code(int a) {
        return a == 0 ? 's' : a == 1 ? '0' : a == 2 ? ',' : a == 3 ? 127 : a;
    }

    private static void breathes(String at, int who, HeardSecond x, Model m) {
        // Lone speakers are the rule: where all are OUT at once, nothing is to be seen.
        int open = who >= 0 && who < 32 && who % 3 != 0 ? who & -who : who;
        C.due(at + "breath(" + open + ")", x.breath(open), m.breath(open));
    }

    private static void hears(String at, Random random, HeardSecond x, Model m) {
        int words = small(random, 9);
        int seat = small(random, 6) - 1;
        C.due(at + "hear(" + words + ", " + seat + ")", x.hear(words, seat), m.hear(words, seat));
    }

    private static void forgets(String at, Random random, HeardSecond x, Model m) {
        if (random.nextInt(3) != 0) {
            C.due(at + "forget()", x.forget(), m.forget());
        }
    }

    private static void holdsSessions(String at, int breaths, int seed, int what, HeardSecond x, Model m) {
        C.due(at + "sessions(" + breaths + ", " + seed + ", " + what + ")",
            x.sessions(breaths, seed, what), m.sessions(breaths, seed, what));
    }

    private static void images(String at, Random random, HeardSecond x, Model m) {
        if (random.nextBoolean()) {
            C.due(at + "image()", x.image(), m.image());
        } else {
            C.due(at + "restore()", x.restore(), m.restore());
        }
    }

    private static void digests(String at, Random random, HeardSecond x, Model m) {
        if (random.nextBoolean()) {
            C.due(at + "digest()", x.digest(), m.digest());
        }
    }
}
