/** A court in which only who speaks second is believed; the document tells what each call answers. */
public final class HeardSecond {
    public static final int NONE = -1, UNKNOWN = -101, OUTSIDE = -102, STATE = -103, FULL = -104;

    private static final int SPEAKER = 0, WHISPERER = 1, ECHOER = 2, FRIEND = 3, MUTE = 4;
    private static final int KINDS = 5;
    private static final int LEAST_SEATS = 2, MOST_SEATS = 5;

    // The LAST one is NONE, a seat or the WALL: rows by the LAST one begin with that of NONE.
    private static final int WALL = 5;
    private static final int LASTS = 7;
    private static final int NOBODY_BIT = 6;

    // Who is BELIEVED is NONE or a seat: rows by it begin with that of NONE.
    private static final int BELIEFS = 6;

    private static final int MOST_LETTERS = 18, LEAST_CODE = 1, MOST_CODE = 126;
    private static final int MOST_TOLD = 8, MOST_TOLD_WORDS = 8;
    private static final int MOST_ROW_WORDS = 6, MOST_PLAY_BREATHS = 6, MOST_SESSION_BREATHS = 60;
    private static final int SEAT_WHATS = 6, COUNT_WHATS = 12, SESSION_WHATS = 3;
    private static final int DIGEST_PLAYS = 4, DIGEST_ROWS = 4;

    // More words than any shortest way has, and more than anything is worth.
    private static final int FAR = 1000;

    private final Page page = new Page();
    private final Bench bench = new Bench();
    private final Trial now = new Trial();
    private final Trial kept = new Trial();
    private final Trial trying = new Trial();
    private final Outlook outlook = new Outlook(bench, now);
    private boolean imageKept;
    private int courtsRead;

    public HeardSecond() {
        imageKept = false;
        courtsRead = 0;
    }

    // ---- the court

    public int letter(int code) {
        if (code < LEAST_CODE || code > MOST_CODE) {
            return OUTSIDE;
        }
        if (page.length >= MOST_LETTERS) {
            return FULL;
        }
        page.append(code);
        return page.length;
    }

    public int blank() {
        int had = page.length;
        page.wipe();
        return had;
    }

    public int fault() {
        return page.firstFault();
    }

    public int court() {
        if (!page.isWhole()) {
            return STATE;
        }
        bench.sitDown(page);
        page.wipe();
        now.beginAll();
        imageKept = false;
        courtsRead++;
        return bench.seats;
    }

    public int seat(int seat, int what) {
        if (!bench.has(seat)) {
            return UNKNOWN;
        }
        switch (what) {
            case 0: return bench.kindAt(seat);
            case 1: return bench.sideAt(seat);
            case 2: return isIn(seat, now.out) ? 1 : 0;
            case 3: return bench.counts(seat, now.last, now.out) ? 1 : 0;
            case 4: return at(now.words, seat);
            case 5:
                outlook.aimAt(seat);
                return outlook.fewestWords(seat);
            default: return OUTSIDE;
        }
    }

    public int as(int seat, int kind) {
        if (!bench.has(seat)) {
            return UNKNOWN;
        }
        if (kind < 0 || kind >= KINDS) {
            return OUTSIDE;
        }
        return bench.isOf(seat, kind) ? seat : NONE;
    }

    public int breath(int who) {
        if (!bench.namesOnlySeats(who)) {
            return OUTSIDE;
        }
        if (!bench.isSet()) {
            return STATE;
        }
        return now.breathe(bench, who);
    }

    // ---- what would be

    public int get(int seat, int what) {
        if (!bench.has(seat)) {
            return UNKNOWN;
        }
        if (what != 0 && what != 1) {
            return OUTSIDE;
        }
        outlook.aimAt(seat);
        return what == 0 ? outlook.fewestWords(seat) : outlook.firstSpeaker(seat);
    }

    public int play(int breaths, int what) {
        if (breaths < 1 || breaths > MOST_PLAY_BREATHS || what != 0 && what != 1) {
            return OUTSIDE;
        }
        if (!bench.isSet()) {
            return STATE;
        }
        outlook.weighReplies(breaths);
        return what == 0 ? outlook.bestWorth() + 1 : outlook.bestOpening();
    }

    // ---- what was heard

    public int hear(int words, int seat) {
        if (words < 0 || words > MOST_TOLD_WORDS) {
            return OUTSIDE;
        }
        if (seat != NONE && !bench.has(seat)) {
            return UNKNOWN;
        }
        if (now.told >= MOST_TOLD) {
            return FULL;
        }
        now.tell(words, seat);
        return now.told;
    }

    public int forget() {
        int had = now.told;
        now.told = 0;
        return had;
    }

    public int rows(int words, int what) {
        if (words < 0 || words > MOST_ROW_WORDS || what != 0 && what != 1) {
            return OUTSIDE;
        }
        if (!bench.isSet()) {
            return STATE;
        }
        outlook.fillWays(words);
        return what == 0 ? outlook.waysOf(words) : outlook.lastsBehind(words);
    }

    public int when() {
        if (!bench.isSet()) {
            return STATE;
        }
        return outlook.bestLook();
    }

    public int sessions(int breaths, int seed, int what) {
        if (breaths < 1 || breaths > MOST_SESSION_BREATHS || seed < 0 || what < 0 || what >= SESSION_WHATS) {
            return OUTSIDE;
        }
        if (!bench.isSet()) {
            return STATE;
        }
        trying.takeFrom(now);
        int seedThen = runSessions(breaths, seed);
        switch (what) {
            case 0: return trying.ended - now.ended;
            case 1: return trying.wonBy0 - now.wonBy0;
            default: return seedThen;
        }
    }

    // ---- what is told of all

    public int image() {
        if (!bench.isSet()) {
            return STATE;
        }
        kept.takeFrom(now);
        imageKept = true;
        return now.breaths;
    }

    public int restore() {
        if (!imageKept) {
            return STATE;
        }
        now.takeFrom(kept);
        return now.breaths;
    }

    public int count(int what) {
        switch (what) {
            case 0: return bench.seats;
            case 1: return bench.patience;
            case 2: return now.last;
            case 3: return now.believed;
            case 4: return now.silence;
            case 5: return now.ended;
            case 6: return now.wonBy0;
            case 7: return now.wonBy1;
            case 8: return now.breaths;
            case 9: return now.told;
            case 10: return page.length;
            case 11: return courtsRead;
            default: return OUTSIDE;
        }
    }

    public long digest() {
        long h = 907L;
        for (int seat = 0; seat < bench.seats; seat++) {
            for (int what = 0; what < SEAT_WHATS; what++) {
                h = 31L * h + seat(seat, what);
            }
            h = 31L * h + get(seat, 1);
        }
        if (bench.isSet()) {
            for (int breaths = 1; breaths <= DIGEST_PLAYS; breaths++) {
                h = 31L * (31L * h + play(breaths, 0)) + play(breaths, 1);
            }
            for (int words = 0; words <= DIGEST_ROWS; words++) {
                h = 31L * (31L * h + rows(words, 0)) + rows(words, 1);
            }
            h = 31L * h + when();
        }
        for (int place = 0; place < page.length; place++) {
            h = 31L * h + page.codeAt(place);
        }
        for (int what = 0; what < COUNT_WHATS; what++) {
            h = 31L * h + count(what);
        }
        return h;
    }

    // ---- what the calls share

    /** Draws the breaths of the trial that is tried out; answers the seed behind them. */
    private int runSessions(int breaths, int seed) {
        long drawn = seed;
        for (int breath = 0; breath < breaths; breath++) {
            int who = 0;
            for (int seat = 0; seat < bench.seats; seat++) {
                drawn = nextSeed(drawn);
                if (drawn / 65536L % 3L == 0L) {
                    who = who | 1 << seat;
                }
            }
            trying.breathe(bench, who);
        }
        return (int) drawn;
    }

    private static long nextSeed(long seed) {
        return (1103515245L * seed + 12345L) % 2147483648L;
    }

    private static boolean isIn(int seat, int bits) {
        return seat >= 0 && seat < MOST_SEATS && (bits >> seat & 1) == 1;
    }

    private static int at(int[] row, int place) {
        return row != null && place >= 0 && place < row.length ? row[place] : 0;
    }

    private static void put(int[] row, int place, int number) {
        if (row != null && place >= 0 && place < row.length) {
            row[place] = number;
        }
    }

    private static void fill(int[] row, int number) {
        if (row != null) {
            for (int place = 0; place < row.length; place++) {
                row[place] = number;
            }
        }
    }

    private static void copy(int[] from, int[] to) {
        if (to != null) {
            for (int place = 0; place < to.length; place++) {
                to[place] = at(from, place);
            }
        }
    }

    /** The letters that came since the page was empty. */
    private static final class Page {
        private static final int KIND = 0, SIDE = 1, MARK = 2, PATIENCE = 3, END = 4, WRONG = 5;

        private final int[] codes = new int[MOST_LETTERS];
        private int length;

        void append(int code) {
            if (length < MOST_LETTERS) {
                put(codes, length, code);
                length++;
            }
        }

        void wipe() {
            length = 0;
        }

        int codeAt(int place) {
            return place >= 0 && place < length ? at(codes, place) : 0;
        }

        int firstFault() {
            int due = KIND;
            int seats = 0;
            for (int place = 0; place < length; place++) {
                int code = codeAt(place);
                if (due == KIND) {
                    seats++;
                }
                due = dueBehind(due, code, seats);
                if (due == WRONG) {
                    return place;
                }
            }
            return length;
        }

        /** A page without a fault is a whole court just if it ends behind the patience. */
        boolean isWhole() {
            return length >= 2 && codeAt(length - 2) == ';' && firstFault() == length;
        }

        private static int dueBehind(int due, int code, int seats) {
            switch (due) {
                case KIND: return kindOf(code) != NONE ? SIDE : WRONG;
                case SIDE: return code == '0' || code == '1' ? MARK : WRONG;
                case MARK: return dueBehindMark(code, seats);
                case PATIENCE: return code >= '1' && code <= '9' ? END : WRONG;
                default: return WRONG;
            }
        }

        private static int dueBehindMark(int code, int seats) {
            if (code == ',' && seats < MOST_SEATS) {
                return KIND;
            }
            return code == ';' && seats >= LEAST_SEATS ? PATIENCE : WRONG;
        }

        static int kindOf(int code) {
            switch (code) {
                case 's': return SPEAKER;
                case 'w': return WHISPERER;
                case 'e': return ECHOER;
                case 'f': return FRIEND;
                case 'm': return MUTE;
                default: return NONE;
            }
        }
    }

    /** Who sits in the court, and what a word of theirs does; without a court nobody sits there. */
    private static final class Bench {
        private final int[] kinds = new int[MOST_SEATS];
        private final int[] sides = new int[MOST_SEATS];
        private int seats;
        private int patience;

        /** Of a page that is a whole court each seat has three letters, and the last letter is the patience. */
        void sitDown(Page page) {
            if (page == null) {
                return;
            }
            seats = Math.min(page.length / 3, MOST_SEATS);
            for (int seat = 0; seat < seats; seat++) {
                put(kinds, seat, Page.kindOf(page.codeAt(3 * seat)));
                put(sides, seat, page.codeAt(3 * seat + 1) - '0');
            }
            patience = page.codeAt(page.length - 1) - '0';
        }

        boolean isSet() {
            return seats > 0;
        }

        boolean has(int seat) {
            return seat >= 0 && seat < seats;
        }

        boolean namesOnlySeats(int who) {
            return who >= 0 && who < 1 << seats;
        }

        int kindAt(int seat) {
            return seat >= 0 && seat < seats && seat < kinds.length ? kinds[seat] : NONE;
        }

        int sideAt(int seat) {
            return seat >= 0 && seat < seats && seat < sides.length ? sides[seat] : NONE;
        }

        boolean isOf(int seat, int kind) {
            int own = kindAt(seat);
            return has(seat) && (kind == SPEAKER || kind == own || kind == WHISPERER && own == MUTE);
        }

        boolean counts(int seat, int last, int out) {
            int kind = kindAt(seat);
            if (kind == NONE || kind == MUTE || isIn(seat, out)) {
                return false;
            }
            return kind != WHISPERER || sitsBeside(last, seat);
        }

        /** The wall and nobody sit beside nobody, though their numbers stand beside those of seats. */
        private boolean sitsBeside(int last, int seat) {
            return last >= 0 && last < seats && (last == seat - 1 || last == seat + 1);
        }

        /** Who is believed behind a word of a seat that is not the last one. */
        int believedBehind(int seat, int last) {
            int kind = kindAt(seat);
            if (last == NONE || kind == ECHOER) {
                return NONE;
            }
            if (kind == FRIEND) {
                return seat == 0 ? seats - 1 : seat - 1;
            }
            return seat;
        }

        int lastBehind(int seat) {
            return kindAt(seat) == ECHOER ? WALL : seat;
        }
    }

    /** How the cases of a court stand, with what was heard: all that an image keeps. */
    private static final class Trial {
        private int last = NONE;
        private int believed = NONE;
        private int out;
        private int silence;
        private int ended;
        private int wonBy0;
        private int wonBy1;
        private int breaths;
        private final int[] words = new int[MOST_SEATS];
        private int told;
        private final int[] toldWords = new int[MOST_TOLD];
        private final int[] toldSeats = new int[MOST_TOLD];

        void beginAll() {
            beginCase();
            ended = 0;
            wonBy0 = 0;
            wonBy1 = 0;
            breaths = 0;
            told = 0;
            fill(words, 0);
        }

        private void beginCase() {
            last = NONE;
            believed = NONE;
            out = 0;
            silence = 0;
        }

        void takeFrom(Trial other) {
            if (other == null) {
                return;
            }
            last = other.last;
            believed = other.believed;
            out = other.out;
            silence = other.silence;
            ended = other.ended;
            wonBy0 = other.wonBy0;
            wonBy1 = other.wonBy1;
            breaths = other.breaths;
            told = other.told;
            copy(other.words, words);
            copy(other.toldWords, toldWords);
            copy(other.toldSeats, toldSeats);
        }

        /** Answers how many of those who open their mouths count. */
        int breathe(Bench bench, int who) {
            if (bench == null) {
                return 0;
            }
            int counting = 0;
            int heard = 0;
            int alone = NONE;
            for (int seat = 0; seat < MOST_SEATS; seat++) {
                if (isIn(seat, who) && bench.counts(seat, last, out)) {
                    counting++;
                    heard = heard | 1 << seat;
                    alone = seat;
                }
            }
            breaths++;
            if (counting == 0) {
                keepSilence(bench);
            } else {
                silence = 0;
                if (counting == 1) {
                    speak(bench, alone);
                } else {
                    out = out | heard;
                }
            }
            return counting;
        }

        private void speak(Bench bench, int seat) {
            put(words, seat, at(words, seat) + 1);
            if (bench != null && seat != last) {
                believed = bench.believedBehind(seat, last);
                last = bench.lastBehind(seat);
            }
        }

        private void keepSilence(Bench bench) {
            silence++;
            if (bench != null && silence >= bench.patience) {
                endCase(bench.sideAt(believed));
            }
        }

        private void endCase(int winner) {
            ended++;
            if (winner == 0) {
                wonBy0++;
            }
            if (winner == 1) {
                wonBy1++;
            }
            beginCase();
        }

        void tell(int wordsFromNow, int seat) {
            if (told < MOST_TOLD) {
                put(toldWords, told, wordsFromNow);
                put(toldSeats, told, seat);
                told++;
            }
        }

        /** Whether all that was heard of just so many words lets this one be believed then. */
        boolean allows(int wordsFromNow, int believedThen) {
            for (int place = 0; place < told; place++) {
                if (at(toldWords, place) == wordsFromNow && at(toldSeats, place) != believedThen) {
                    return false;
                }
            }
            return true;
        }
    }

    /**
     * What words could come from now on, each by one alone. Who is out stays so, and what a word does hangs on
     * its speaker and the last one alone: a table by these two tells it, made anew for each question.
     */
    private static final class Outlook {
        private static final int NO_WORD = -2;

        private final Bench bench;
        private final Trial now;
        private final int[] lastThen = new int[LASTS * MOST_SEATS];
        private final int[] believedThen = new int[LASTS * MOST_SEATS];
        private final int[] steps = new int[LASTS];
        private final int[] worths = new int[LASTS * BELIEFS];
        private final int[] earlierWorths = new int[LASTS * BELIEFS];
        private final int[] ways = new int[(MOST_ROW_WORDS + 1) * LASTS];
        private final int[] endings = new int[(MOST_ROW_WORDS + 1) * LASTS];
        private final int[] left = new int[BELIEFS];

        Outlook(Bench bench, Trial now) {
            this.bench = bench;
            this.now = now;
        }

        private void tableWords() {
            for (int last = NONE; last <= WALL; last++) {
                for (int seat = 0; seat < MOST_SEATS; seat++) {
                    boolean can = seat != last && bench.counts(seat, last, now.out);
                    put(lastThen, wordPlace(last, seat), can ? bench.lastBehind(seat) : NO_WORD);
                    put(believedThen, wordPlace(last, seat), can ? bench.believedBehind(seat, last) : NONE);
                }
            }
        }

        private static int wordPlace(int last, int seat) {
            return (last + 1) * MOST_SEATS + seat;
        }

        // -- by how few words a seat is believed

        /** A shortest way has no last one twice, so as many rounds as there are last ones find it. */
        void aimAt(int target) {
            tableWords();
            fill(steps, FAR);
            for (int round = 0; round < LASTS; round++) {
                for (int last = NONE; last <= WALL; last++) {
                    int fewest = FAR;
                    for (int seat = 0; seat < MOST_SEATS; seat++) {
                        fewest = Math.min(fewest, stepsBy(seat, last, target));
                    }
                    put(steps, last + 1, fewest);
                }
            }
        }

        int fewestWords(int target) {
            if (now.believed == target) {
                return 0;
            }
            int fewest = at(steps, now.last + 1);
            return fewest < FAR ? fewest : NONE;
        }

        /** No way by somebody's word has 0 words or NONE: then nobody is found. */
        int firstSpeaker(int target) {
            int fewest = fewestWords(target);
            for (int seat = 0; seat < MOST_SEATS; seat++) {
                if (stepsBy(seat, now.last, target) == fewest) {
                    return seat;
                }
            }
            return NONE;
        }

        private int stepsBy(int seat, int last, int target) {
            int word = wordPlace(last, seat);
            if (at(lastThen, word) == NO_WORD) {
                return FAR;
            }
            if (at(believedThen, word) == target) {
                return 1;
            }
            return Math.min(FAR, 1 + at(steps, at(lastThen, word) + 1));
        }

        // -- what is best to do by turns

        /** Fills by what the first breath leaves how much it is worth when all the others have followed. */
        void weighReplies(int breaths) {
            tableWords();
            for (int last = NONE; last <= WALL; last++) {
                for (int believed = NONE; believed < MOST_SEATS; believed++) {
                    put(worths, worthPlace(last, believed), worthOfEnd(believed));
                }
            }
            for (int breath = breaths - 1; breath > 0; breath--) {
                weighBreath(breath % 2);
            }
        }

        int bestWorth() {
            return better(0, at(worths, worthPlace(now.last, now.believed)), bestByWord(0, now.last));
        }

        int bestOpening() {
            int best = bestWorth();
            if (at(worths, worthPlace(now.last, now.believed)) == best) {
                return NONE;
            }
            for (int seat = 0; seat < MOST_SEATS; seat++) {
                if (isTurnOf(0, seat, now.last) && worthBehind(seat, now.last) == best) {
                    return seat;
                }
            }
            return NONE;
        }

        private void weighBreath(int side) {
            for (int last = NONE; last <= WALL; last++) {
                int byWord = bestByWord(side, last);
                for (int believed = NONE; believed < MOST_SEATS; believed++) {
                    int place = worthPlace(last, believed);
                    put(earlierWorths, place, better(side, at(worths, place), byWord));
                }
            }
            copy(earlierWorths, worths);
        }

        /**
         * Worse than all if none of the side can speak. The last one's own word is left out: it changes nothing,
         * as if nobody spoke.
         */
        private int bestByWord(int side, int last) {
            int best = side == 0 ? -FAR : FAR;
            for (int seat = 0; seat < MOST_SEATS; seat++) {
                if (isTurnOf(side, seat, last)) {
                    best = better(side, best, worthBehind(seat, last));
                }
            }
            return best;
        }

        private static int better(int side, int worth, int other) {
            return side == 0 ? Math.max(worth, other) : Math.min(worth, other);
        }

        private boolean isTurnOf(int side, int seat, int last) {
            return bench.sideAt(seat) == side && at(lastThen, wordPlace(last, seat)) != NO_WORD;
        }

        private int worthBehind(int seat, int last) {
            int word = wordPlace(last, seat);
            return at(worths, worthPlace(at(lastThen, word), at(believedThen, word)));
        }

        private int worthOfEnd(int believed) {
            switch (bench.sideAt(believed)) {
                case 0: return 1;
                case 1: return -1;
                default: return 0;
            }
        }

        private static int worthPlace(int last, int believed) {
            return (last + 1) * BELIEFS + believed + 1;
        }

        // -- in how many ways words can be spoken

        /** Fills for 0 to so many words in how many ways each one is the last behind them. */
        void fillWays(int words) {
            tableWords();
            fill(ways, 0);
            put(ways, rowPlace(0, now.last), now.allows(0, now.believed) ? 1 : 0);
            for (int word = 1; word <= words; word++) {
                for (int last = NONE; last <= WALL; last++) {
                    for (int seat = 0; seat < MOST_SEATS; seat++) {
                        if (canBeWord(word, seat, last)) {
                            int then = rowPlace(word, at(lastThen, wordPlace(last, seat)));
                            put(ways, then, at(ways, then) + at(ways, rowPlace(word - 1, last)));
                        }
                    }
                }
            }
        }

        int waysOf(int words) {
            int sum = 0;
            for (int last = NONE; last <= WALL; last++) {
                sum += at(ways, rowPlace(words, last));
            }
            return sum;
        }

        int lastsBehind(int words) {
            int bits = 0;
            for (int last = NONE; last <= WALL; last++) {
                if (at(ways, rowPlace(words, last)) > 0) {
                    bits = bits | 1 << (last == NONE ? NOBODY_BIT : last);
                }
            }
            return bits;
        }

        int bestLook() {
            fillWays(MOST_ROW_WORDS);
            if (waysOf(MOST_ROW_WORDS) == 0) {
                return NONE;
            }
            fillEndings();
            int best = 1;
            int fewest = mostLeft(1);
            for (int word = 2; word <= MOST_ROW_WORDS; word++) {
                int most = mostLeft(word);
                if (most < fewest) {
                    best = word;
                    fewest = most;
                }
            }
            return best;
        }

        /** Fills for 1 to 6 words and each last one behind them in how many ways the row goes on to 6. */
        private void fillEndings() {
            for (int last = NONE; last <= WALL; last++) {
                put(endings, rowPlace(MOST_ROW_WORDS, last), 1);
            }
            for (int word = MOST_ROW_WORDS; word > 1; word--) {
                for (int last = NONE; last <= WALL; last++) {
                    int sum = 0;
                    for (int seat = 0; seat < MOST_SEATS; seat++) {
                        if (canBeWord(word, seat, last)) {
                            sum += at(endings, rowPlace(word, at(lastThen, wordPlace(last, seat))));
                        }
                    }
                    put(endings, rowPlace(word - 1, last), sum);
                }
            }
        }

        /** How many rows of 6 are left at worst when it is seen who is believed behind this word. */
        private int mostLeft(int word) {
            fill(left, 0);
            int most = 0;
            for (int last = NONE; last <= WALL; last++) {
                int before = at(ways, rowPlace(word - 1, last));
                for (int seat = 0; seat < MOST_SEATS; seat++) {
                    if (canBeWord(word, seat, last)) {
                        int place = wordPlace(last, seat);
                        int group = at(believedThen, place) + 1;
                        int sum = at(left, group) + before * at(endings, rowPlace(word, at(lastThen, place)));
                        put(left, group, sum);
                        most = Math.max(most, sum);
                    }
                }
            }
            return most;
        }

        private boolean canBeWord(int word, int seat, int last) {
            int place = wordPlace(last, seat);
            return at(lastThen, place) != NO_WORD && now.allows(word, at(believedThen, place));
        }

        private static int rowPlace(int words, int last) {
            return words * LASTS + last + 1;
        }
    }
}
