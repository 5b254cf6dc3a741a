/** What the tests share: they tell every answer that is not the one that is due. */
final class Checks {
    private int wrong = 0;
    private int asked = 0;

    void due(String call, long got, long want) {
        asked++;
        if (got != want) {
            wrong++;
            System.out.println(call + " answered " + got + ", due is " + want);
        }
    }

    void end() {
        System.out.println(asked + " answers, " + wrong + " wrong");
        if (wrong != 0 || asked == 0) {
            System.exit(1);
        }
    }

    /** Sets the letters of a text behind the page. */
    static void type(HeardSecond x, String text) {
        for (char letter : text.toCharArray()) {
            x.letter(letter);
        }
    }

    static HeardSecond pageOf(String text) {
        HeardSecond x = new HeardSecond();
        type(x, text);
        return x;
    }

    static HeardSecond courtOf(String text) {
        HeardSecond x = pageOf(text);
        if (x.court() < 2) {
            throw new IllegalStateException("no court: " + text);
        }
        return x;
    }

    /** A court where so many single seats have spoken, one behind the other. */
    static HeardSecond spoken(String text, int... seats) {
        HeardSecond x = courtOf(text);
        for (int seat : seats) {
            x.breath(1 << seat);
        }
        return x;
    }

    /** That a refused call, its answer given here, has changed nothing that the object tells. */
    void refused(String call, HeardSecond x, long before, long got, long want) {
        due(call, got, want);
        due("digest() behind the refused " + call, x.digest(), before);
    }
}
