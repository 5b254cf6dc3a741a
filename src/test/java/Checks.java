import java.io.IOException;
import java.nio.file.Files;
import java.nio.file.Path;

/** What the tests share: they tell every answer that is not the one that is due. */
final class Checks {
    private int wrong = 0;
    private int asked = 0;
    private String document = "";
    private String sentence = "";
    private int askedAhead = 0;

    void due(String call, long got, long want) {
        asked++;
        if (got != want) {
            wrong++;
            System.out.println(call + " answered " + got + ", due is " + want
                + (sentence.isEmpty() ? "" : "; the document: \"" + sentence + "\""));
        }
    }

    void end() {
        endSentence();
        System.out.println(asked + " answers, " + wrong + " wrong");
        if (wrong != 0 || asked == 0) {
            System.exit(1);
        }
    }

    /** What is due from here on is due by these words: they stand so in the document, and are not told in vain. */
    void sentence(String words) {
        endSentence();
        due("whether the document says \"" + words + "\"", document().contains(words) ? 1 : 0, 1);
        sentence = words;
        askedAhead = asked;
    }

    private void endSentence() {
        if (!sentence.isEmpty() && asked == askedAhead) {
            due("how much is asked for", 0, 1);
        }
        sentence = "";
    }

    private String document() {
        if (document.isEmpty()) {
            Path path = Path.of(System.getProperty("project.root", "."), "..", "shared", "DOC.md");
            try {
                document = Files.readString(path).replaceAll("\\s+", " ");
            } catch (IOException e) {
                throw new IllegalStateException("no document: " + path, e);
            }
        }
        return document;
    }

    /** Sets the letters of a text behind the page. */
    static void type(HeardSecond x, String text) {
        for (char letter : text.toCharArray()) {
            x.letter(letter);
        }
    }

    static HeardSecond pageOf(String text) {
        HeardSecond x = new HeardSecond();
        type(x, text);
        return x;
    }

    static HeardSecond courtOf(String text) {
        HeardSecond x = pageOf(text);
        if (x.court() < 2) {
            throw new IllegalStateException("no court: " + text);
        }
        return x;
    }

    /** A court where so many single seats have spoken, one behind the other. */
    static HeardSecond spoken(String text, int... seats) {
        HeardSecond x = courtOf(text);
        for (int seat : seats) {
            x.breath(1 << seat);
        }
        return x;
    }

    /** A court behind so many breaths, each told by the bits of who opens his mouth. */
    static HeardSecond breathed(String text, int... breaths) {
        HeardSecond x = courtOf(text);
        for (int who : breaths) {
            x.breath(who);
        }
        return x;
    }

    /** A court of as many seats as kinds, the sides by turns from 0. */
    static String courtText(String kinds, int patience) {
        StringBuilder text = new StringBuilder();
        for (int seat = 0; seat < kinds.length(); seat++) {
            text.append(seat == 0 ? "" : ",").append(kinds.charAt(seat)).append(seat % 2);
        }
        return text.append(';').append(patience).toString();
    }

    /** How a case stands: count() for 2, 3 and 4. */
    void stands(String what, HeardSecond x, int last, int believed, int silence) {
        due(what + ": LAST", x.count(2), last);
        due(what + ": BELIEVED", x.count(3), believed);
        due(what + ": SILENCE", x.count(4), silence);
    }

    /** How cases ended: count() for 5, 6 and 7. */
    void cases(String what, HeardSecond x, int ended, int wonBy0, int wonBy1) {
        due(what + ": CASES that ended", x.count(5), ended);
        due(what + ": SIDE 0 won", x.count(6), wonBy0);
        due(what + ": SIDE 1 won", x.count(7), wonBy1);
    }

    /** Who is out, as bits. */
    static int out(HeardSecond x) {
        return bits(x, 2);
    }

    /** Who would count, as bits. */
    static int counting(HeardSecond x) {
        return bits(x, 3);
    }

    private static int bits(HeardSecond x, int what) {
        int bits = 0;
        for (int seat = 0; seat < x.count(0); seat++) {
            bits |= x.seat(seat, what) << seat;
        }
        return bits;
    }

    /** That a refused call, its answer given here, has changed nothing that the object tells. */
    void refused(String call, HeardSecond x, long before, long got, long want) {
        due(call, got, want);
        due("digest() behind the refused " + call, x.digest(), before);
    }
}
