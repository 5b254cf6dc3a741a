import java.math.BigInteger;
import java.util.ArrayList;
import java.util.List;
import java.util.regex.Matcher;
import java.util.regex.Pattern;

/** The document told once more, as plainly and slowly as can be, to compare the class with: it tries out everything. */
final class Model {
    private static final Pattern COURT = Pattern.compile("[swefm][01](,[swefm][01]){1,4};[1-9]");
    private static final int WALL = 5;

    /** What an image keeps. */
    private static final class Kept {
        int last = -1, believed = -1, out, silence, ended, won0, won1, breaths;
        int[] words = new int[5];
        List<int[]> heard = new ArrayList<>();

        Kept same() {
            Kept k = new Kept();
            k.last = last;
            k.believed = believed;
            k.out = out;
            k.silence = silence;
            k.ended = ended;
            k.won0 = won0;
            k.won1 = won1;
            k.breaths = breaths;
            k.words = words.clone();
            k.heard = new ArrayList<>(heard);
            return k;
        }
    }

    private String page = "";
    private String kinds = "";
    private String sides = "";
    private int patience;
    private int courts;
    private Kept now = new Kept();
    private Kept image;

    int letter(int code) {
        if (code < 1 || code > 126) {
            return -102;
        }
        if (page.length() == 18) {
            return -104;
        }
        page += (char) code;
        return page.length();
    }

    int blank() {
        int had = page.length();
        page = "";
        return had;
    }

    int fault() {
        for (int end = 1; end <= page.length(); end++) {
            Matcher m = COURT.matcher(page.substring(0, end));
            if (!m.matches() && !m.hitEnd()) {
                return end - 1;
            }
        }
        return page.length();
    }

    int court() {
        if (!COURT.matcher(page).matches()) {
            return -103;
        }
        kinds = "";
        sides = "";
        for (String seat : page.substring(0, page.indexOf(';')).split(",")) {
            kinds += seat.charAt(0);
            sides += seat.charAt(1);
        }
        patience = page.charAt(page.indexOf(';') + 1) - '0';
        page = "";
        now = new Kept();
        image = null;
        courts++;
        return kinds.length();
    }

    private boolean isSeat(int seat) {
        return seat >= 0 && seat < kinds.length();
    }

    private boolean none() {
        return kinds.isEmpty();
    }

    int seat(int seat, int what) {
        if (!isSeat(seat)) {
            return -101;
        }
        return switch (what) {
            case 0 -> "swefm".indexOf(kinds.charAt(seat));
            case 1 -> sides.charAt(seat) - '0';
            case 2 -> (now.out & 1 << seat) != 0 ? 1 : 0;
            case 3 -> counts(now, seat) ? 1 : 0;
            case 4 -> now.words[seat];
            case 5 -> get(seat, 0);
            default -> -102;
        };
    }

    int as(int seat, int kind) {
        if (!isSeat(seat)) {
            return -101;
        }
        if (kind < 0 || kind > 4) {
            return -102;
        }
        char c = kinds.charAt(seat);
        return kind == 0 || "swefm".charAt(kind) == c || c == 'm' && kind == 1 ? seat : -1;
    }

    private boolean counts(Kept k, int seat) {
        if ((k.out & 1 << seat) != 0 || kinds.charAt(seat) == 'm') {
            return false;
        }
        return kinds.charAt(seat) != 'w' || k.last != -1 && k.last != WALL && Math.abs(k.last - seat) == 1;
    }

    private void word(Kept k, int seat) {
        k.words[seat]++;
        if (seat == k.last) {
            return;
        }
        boolean first = k.last == -1;
        int friend = (seat + kinds.length() - 1) % kinds.length();
        k.believed = first ? -1 : kinds.charAt(seat) == 'f' ? friend : seat;
        k.last = seat;
        if (kinds.charAt(seat) == 'e') {
            k.believed = -1;
            k.last = WALL;
        }
    }

    private int breathe(Kept k, int who) {
        List<Integer> counting = new ArrayList<>();
        for (int seat = 0; seat < kinds.length(); seat++) {
            if ((who & 1 << seat) != 0 && counts(k, seat)) {
                counting.add(seat);
            }
        }
        k.breaths++;
        if (!counting.isEmpty()) {
            k.silence = 0;
        }
        if (counting.size() == 1) {
            word(k, counting.get(0));
        } else if (counting.size() > 1) {
            counting.forEach(seat -> k.out |= 1 << seat);
        } else if (++k.silence == patience) {
            k.ended++;
            if (k.believed >= 0 && sides.charAt(k.believed) == '0') {
                k.won0++;
            }
            if (k.believed >= 0 && sides.charAt(k.believed) == '1') {
                k.won1++;
            }
            k.last = -1;
            k.believed = -1;
            k.out = 0;
            k.silence = 0;
        }
        return counting.size();
    }

    int breath(int who) {
        if ((who & -1 << kinds.length()) != 0) {
            return -102;
        }
        return none() ? -103 : breathe(now, who);
    }

    /** Whether the seat can be believed by just so many words, whoever speaks them. */
    private boolean canGet(Kept k, int seat, int words) {
        if (words == 0) {
            return k.believed == seat;
        }
        for (int s = 0; s < kinds.length(); s++) {
            if (counts(k, s)) {
                Kept next = k.same();
                word(next, s);
                if (canGet(next, seat, words - 1)) {
                    return true;
                }
            }
        }
        return false;
    }

    /** More words than 5 are never needed: five LAST ones on a way, and then he is believed. */
    int get(int seat, int what) {
        if (!isSeat(seat)) {
            return -101;
        }
        if (what != 0 && what != 1) {
            return -102;
        }
        for (int words = 0; words <= 5; words++) {
            if (canGet(now, seat, words)) {
                return what == 0 ? words : firstOf(seat, words);
            }
        }
        return -1;
    }

    private int firstOf(int seat, int words) {
        for (int s = 0; words > 0 && s < kinds.length(); s++) {
            if (counts(now, s)) {
                Kept next = now.same();
                word(next, s);
                if (canGet(next, seat, words - 1)) {
                    return s;
                }
            }
        }
        return -1;
    }

    private int worth(Kept k, int side, int left) {
        if (left == 0) {
            return k.believed == -1 ? 0 : sides.charAt(k.believed) == '0' ? 1 : -1;
        }
        int best = worth(k, 1 - side, left - 1);
        for (int s = 0; s < kinds.length(); s++) {
            if (sides.charAt(s) - '0' == side && counts(k, s)) {
                Kept next = k.same();
                word(next, s);
                int w = worth(next, 1 - side, left - 1);
                best = side == 0 ? Math.max(best, w) : Math.min(best, w);
            }
        }
        return best;
    }

    int play(int breaths, int what) {
        if (breaths < 1 || breaths > 6 || what < 0 || what > 1) {
            return -102;
        }
        if (none()) {
            return -103;
        }
        int best = worth(now, 0, breaths);
        if (what == 0) {
            return best + 1;
        }
        if (worth(now, 1, breaths - 1) == best) {
            return -1;
        }
        for (int s = 0; s < kinds.length(); s++) {
            if (sides.charAt(s) == '0' && counts(now, s)) {
                Kept next = now.same();
                word(next, s);
                if (worth(next, 1, breaths - 1) == best) {
                    return s;
                }
            }
        }
        return -1;
    }

    int hear(int words, int seat) {
        if (words < 0 || words > 8) {
            return -102;
        }
        if (seat != -1 && !isSeat(seat)) {
            return -101;
        }
        if (now.heard.size() == 8) {
            return -104;
        }
        now.heard.add(new int[] {words, seat});
        return now.heard.size();
    }

    int forget() {
        int had = now.heard.size();
        now.heard.clear();
        return had;
    }

    /** Each row as who was BELIEVED behind 0, 1, .. words, and the LAST one behind all. */
    private void spell(Kept k, int[] row, int words, List<int[]> into) {
        row[words] = k.believed;
        for (int[] h : now.heard) {
            if (h[0] == words && h[1] != k.believed) {
                return;
            }
        }
        if (words == row.length - 2) {
            row[words + 1] = k.last;
            into.add(row.clone());
            return;
        }
        for (int s = 0; s < kinds.length(); s++) {
            if (s != k.last && counts(k, s)) {
                Kept next = k.same();
                word(next, s);
                spell(next, row, words + 1, into);
            }
        }
    }

    private List<int[]> spelled(int words) {
        List<int[]> all = new ArrayList<>();
        spell(now, new int[words + 2], 0, all);
        return all;
    }

    int rows(int words, int what) {
        if (words < 0 || words > 6 || what < 0 || what > 1) {
            return -102;
        }
        if (none()) {
            return -103;
        }
        List<int[]> all = spelled(words);
        int bits = 0;
        for (int[] row : all) {
            int last = row[words + 1];
            bits |= 1 << (last == -1 ? 6 : last);
        }
        return what == 0 ? all.size() : bits;
    }

    int when() {
        if (none()) {
            return -103;
        }
        List<int[]> all = spelled(6);
        int best = -1;
        int least = Integer.MAX_VALUE;
        for (int words = 1; words <= 6; words++) {
            int worst = 0;
            for (int seen = -1; seen < 5; seen++) {
                int left = 0;
                for (int[] row : all) {
                    left += row[words] == seen ? 1 : 0;
                }
                worst = Math.max(worst, left);
            }
            if (worst < least) {
                least = worst;
                best = words;
            }
        }
        return all.isEmpty() ? -1 : best;
    }

    int sessions(int breaths, int seed, int what) {
        if (breaths < 1 || breaths > 60 || seed < 0 || what < 0 || what > 2) {
            return -102;
        }
        if (none()) {
            return -103;
        }
        Kept k = now.same();
        BigInteger drawn = BigInteger.valueOf(seed);
        for (int b = 0; b < breaths; b++) {
            int who = 0;
            for (int s = 0; s < kinds.length(); s++) {
                drawn = drawn.multiply(BigInteger.valueOf(1103515245)).add(BigInteger.valueOf(12345))
                    .mod(BigInteger.TWO.pow(31));
                if (drawn.divide(BigInteger.valueOf(65536)).mod(BigInteger.valueOf(3)).signum() == 0) {
                    who += 1 << s;
                }
            }
            breathe(k, who);
        }
        return what == 0 ? k.ended - now.ended : what == 1 ? k.won0 - now.won0 : drawn.intValueExact();
    }

    int image() {
        if (none()) {
            return -103;
        }
        image = now.same();
        return now.breaths;
    }

    int restore() {
        if (image == null) {
            return -103;
        }
        now = image.same();
        return now.breaths;
    }

    int count(int what) {
        int[] all = {kinds.length(), patience, now.last, now.believed, now.silence, now.ended, now.won0, now.won1,
            now.breaths, now.heard.size(), page.length(), courts};
        return what < 0 || what >= all.length ? -102 : all[what];
    }

    long digest() {
        List<Integer> numbers = new ArrayList<>();
        for (int s = 0; s < kinds.length(); s++) {
            for (int what = 0; what <= 5; what++) {
                numbers.add(seat(s, what));
            }
            numbers.add(get(s, 1));
        }
        if (!none()) {
            for (int i = 0; i < 8; i++) {
                numbers.add(play(1 + i / 2, i % 2));
            }
            for (int i = 0; i < 10; i++) {
                numbers.add(rows(i / 2, i % 2));
            }
            numbers.add(when());
        }
        page.chars().forEach(numbers::add);
        for (int what = 0; what <= 11; what++) {
            numbers.add(count(what));
        }
        long h = 907;
        for (int n : numbers) {
            h = 31 * h + n;
        }
        return h;
    }
}
