import java.util.ArrayList;
import java.util.List;

/**
 * Each call in each of some states, with arguments around every limit: of several refusals the first one that the
 * call's own words tell is the answer, it changes nothing, and what is not refused by these words is answered.
 */
public final class RefusalsTest {
    private static final int U = HeardSecond.UNKNOWN, O = HeardSecond.OUTSIDE, S = HeardSecond.STATE, F = HeardSecond.FULL;
    private static final int MIN = Integer.MIN_VALUE, MAX = Integer.MAX_VALUE;
    private static final int GRANTED = 0;
    private static final int[] EDGES = {MIN, -104, -2, -1, 0, 1, 2, 3, 4, 5, 6, 7, 8, 9, 11, 12, 18, 19, 32, MAX};
    private static final int[] BITS = {MIN, -32, -1, 0, 1, 3, 4, 5, 7, 8, 15, 16, 31, 32, 33, 63, 64, 1 << 30, MAX};
    private static final int[] CODES = {MIN, -1, 0, 1, 47, 115, 125, 126, 127, 128, 255, 256, 371, MAX};
    private static final int[] BREATHS = {MIN, -1, 0, 1, 2, 59, 60, 61, MAX};
    private static final int[] SEEDS = {MIN, -1, 0, 1, MAX};
    private static final int[] NO_ARGUMENT = {0};
    private static final String TWO = "s0,s1;2", FIVE = "s0,s1,w0,e1,f0;3", FULL_PAGE = "s0,s1;1s0,s1;1s0,s";
    private static final Checks C = new Checks();

    /** A way to make an object, and what of it its refusals hang on. */
    private record State(String name, String[] pages, int[] breaths, int told, boolean image, boolean again, String page) {
        HeardSecond make() {
            HeardSecond x = new HeardSecond();
            for (String text : pages) {
                Checks.type(x, text);
                x.court();
            }
            for (int who : breaths) {
                x.breath(who);
            }
            for (int some = 0; some < told; some++) {
                x.hear(some % 2 == 0 ? 8 : 0, HeardSecond.NONE);
            }
            if (image) {
                x.image();
                x.breath(1);
            }
            if (again) {
                Checks.type(x, pages[0]);
                x.court();
            }
            Checks.type(x, page);
            return x;
        }

        int seats() {
            return pages.length == 0 ? 0 : (pages[pages.length - 1].length() - 1) / 3;
        }

        boolean has(int seat) {
            return seat >= 0 && seat < seats();
        }

        boolean hasCourtToRead() {
            return page.equals(TWO) || page.equals(FIVE);
        }

        int withoutCourt() {
            return seats() == 0 ? S : GRANTED;
        }
    }

    private interface Asked {
        long ask(HeardSecond x, int a, int b, int c);
    }

    /** By the words behind the call's promise, in their order; GRANTED if none holds. */
    private interface Refused {
        int by(State s, int a, int b, int c);
    }

    private record Call(String name, int[] as, int[] bs, int[] cs, Asked asked, Refused refused) {
    }

    public static void main(String[] args) {
        C.sentence("Refusals, of several the first as told by each call: UNKNOWN (a number names nothing), "
            + "OUTSIDE (it is not as told), STATE (as told), FULL; they change nothing.");
        for (State state : states()) {
            List<Long> before = fingerprint(state.make());
            for (Call call : calls()) {
                sweep(state, call, before);
            }
        }
        C.end();
    }

    private static State[] states() {
        return new State[] {
            new State("new", new String[0], new int[0], 0, false, false, ""),
            new State("no COURT, all full", new String[0], new int[0], 8, false, false, FULL_PAGE),
            new State("no COURT, one to read", new String[0], new int[0], 1, false, false, TWO),
            new State("two SEATS", new String[] {TWO}, new int[0], 0, false, false, ""),
            new State("two SEATS, an IMAGE", new String[] {TWO}, new int[] {1, 2, 0, 0, 2}, 7, true, false, "s"),
            new State("three SEATS", new String[] {FIVE, "m0,s1,s0;1"}, new int[] {6, 4}, 0, false, false, FIVE),
            new State("four SEATS, all full", new String[] {"s0,f1,s0,e1;9"}, new int[] {1, 12}, 8, true, false, FULL_PAGE),
            new State("five SEATS, an IMAGE", new String[] {FIVE}, new int[] {1, 2, 31, 0}, 3, true, false, FIVE + "s"),
            new State("five SEATS, the IMAGE gone", new String[] {FIVE}, new int[] {1, 2, 31, 0}, 3, true, true, "")};
    }

    private static Call[] calls() {
        return new Call[] {
            new Call("letter", CODES, NO_ARGUMENT, NO_ARGUMENT, (x, a, b, c) -> x.letter(a),
                (s, a, b, c) -> a < 1 || a > 126 ? O : s.page().length() == 18 ? F : GRANTED),
            new Call("blank", NO_ARGUMENT, NO_ARGUMENT, NO_ARGUMENT, (x, a, b, c) -> x.blank(),
                (s, a, b, c) -> GRANTED),
            new Call("fault", NO_ARGUMENT, NO_ARGUMENT, NO_ARGUMENT, (x, a, b, c) -> x.fault(),
                (s, a, b, c) -> GRANTED),
            new Call("court", NO_ARGUMENT, NO_ARGUMENT, NO_ARGUMENT, (x, a, b, c) -> x.court(),
                (s, a, b, c) -> s.hasCourtToRead() ? GRANTED : S),
            new Call("seat", EDGES, EDGES, NO_ARGUMENT, (x, a, b, c) -> x.seat(a, b),
                (s, a, b, c) -> !s.has(a) ? U : b < 0 || b > 5 ? O : GRANTED),
            new Call("as", EDGES, EDGES, NO_ARGUMENT, (x, a, b, c) -> x.as(a, b),
                (s, a, b, c) -> !s.has(a) ? U : b < 0 || b > 4 ? O : GRANTED),
            new Call("breath", BITS, NO_ARGUMENT, NO_ARGUMENT, (x, a, b, c) -> x.breath(a),
                (s, a, b, c) -> a >> s.seats() != 0 ? O : s.withoutCourt()),
            new Call("get", EDGES, EDGES, NO_ARGUMENT, (x, a, b, c) -> x.get(a, b),
                (s, a, b, c) -> !s.has(a) ? U : b < 0 || b > 1 ? O : GRANTED),
            new Call("play", EDGES, EDGES, NO_ARGUMENT, (x, a, b, c) -> x.play(a, b),
                (s, a, b, c) -> a < 1 || a > 6 || b < 0 || b > 1 ? O : s.withoutCourt()),
            new Call("hear", EDGES, EDGES, NO_ARGUMENT, (x, a, b, c) -> x.hear(a, b),
                (s, a, b, c) -> a < 0 || a > 8 ? O : b != -1 && !s.has(b) ? U : s.told() == 8 ? F : GRANTED),
            new Call("forget", NO_ARGUMENT, NO_ARGUMENT, NO_ARGUMENT, (x, a, b, c) -> x.forget(),
                (s, a, b, c) -> GRANTED),
            new Call("rows", EDGES, EDGES, NO_ARGUMENT, (x, a, b, c) -> x.rows(a, b),
                (s, a, b, c) -> a < 0 || a > 6 || b < 0 || b > 1 ? O : s.withoutCourt()),
            new Call("when", NO_ARGUMENT, NO_ARGUMENT, NO_ARGUMENT, (x, a, b, c) -> x.when(),
                (s, a, b, c) -> s.withoutCourt()),
            new Call("sessions", BREATHS, SEEDS, EDGES, (x, a, b, c) -> x.sessions(a, b, c),
                (s, a, b, c) -> a < 1 || a > 60 || b < 0 || c < 0 || c > 2 ? O : s.withoutCourt()),
            new Call("image", NO_ARGUMENT, NO_ARGUMENT, NO_ARGUMENT, (x, a, b, c) -> x.image(),
                (s, a, b, c) -> s.withoutCourt()),
            new Call("restore", NO_ARGUMENT, NO_ARGUMENT, NO_ARGUMENT, (x, a, b, c) -> x.restore(),
                (s, a, b, c) -> s.image() && !s.again() ? GRANTED : S),
            new Call("count", EDGES, NO_ARGUMENT, NO_ARGUMENT, (x, a, b, c) -> x.count(a),
                (s, a, b, c) -> a < 0 || a > 11 ? O : GRANTED)};
    }

    private static void sweep(State state, Call call, List<Long> before) {
        for (int a : call.as()) {
            for (int b : call.bs()) {
                for (int c : call.cs()) {
                    one(state, call, a, b, c, before);
                }
            }
        }
    }

    private static void one(State state, Call call, int a, int b, int c, List<Long> before) {
        String what = state.name() + ": " + call.name() + " of " + a + ", " + b + ", " + c;
        HeardSecond x = state.make();
        long answer = call.asked().ask(x, a, b, c);
        int refusal = call.refused().by(state, a, b, c);
        if (refusal == GRANTED) {
            C.due(what + ": whether it is refused", answer < HeardSecond.NONE ? answer : 0, 0);
        } else {
            C.due(what, answer, refusal);
            C.due(what + ": whether all is as it was", fingerprint(x).equals(before) ? 1 : 0, 1);
        }
    }

    /** What the object tells, what it tells behind its IMAGE, and behind the COURT on its PAGE. */
    private static List<Long> fingerprint(HeardSecond x) {
        List<Long> all = new ArrayList<>();
        all.add(x.digest());
        for (int what = 0; what < 2; what++) {
            all.add((long) x.rows(5, what));
            all.add((long) x.rows(6, what));
            all.add((long) x.play(5, what));
            all.add((long) x.play(6, what));
        }
        all.add((long) x.fault());
        all.add((long) x.restore());
        all.add(x.digest());
        all.add((long) x.court());
        all.add(x.digest());
        return all;
    }
}
