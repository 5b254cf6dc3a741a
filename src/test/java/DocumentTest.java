import java.io.IOException;
import java.nio.file.Files;
import java.nio.file.Path;
import java.util.regex.Matcher;
import java.util.regex.Pattern;

/** That each sentence of the document that promises something is quoted by a test (Checks.sentence). */
public final class DocumentTest {
    /** What promises nothing: the tale ahead of the first term, the face, headings, and what is told to be free. */
    private static final String[] PROMISE_NOTHING = {"^.*?======== 1 ", "what later calls answer is free\\.",
        "## The public face .*?## Terms", "======== [23]", "```(text)?", "Ahead of the calls `letter`.*?(?=## Promise 1:)",
        "## Promise \\d+: [^`]*`[^`]*`: ", "## Not promised .*$"};
    private static final Pattern QUOTED = Pattern.compile("C\\.sentence\\(((?:\\s*\\+?\\s*\"[^\"\\\\]*(?:\\\\.[^\"\\\\]*)*\")+)\\)");
    private static final Pattern TEXT = Pattern.compile("\"([^\"\\\\]*(?:\\\\.[^\"\\\\]*)*)\"");
    private static final Checks C = new Checks();

    public static void main(String[] args) throws IOException {
        Path root = Path.of(System.getProperty("project.root"));
        String document = Files.readString(root.resolve("../shared/DOC.md")).replaceAll("\\s+", " ");
        boolean[] told = new boolean[document.length()];
        for (String regex : PROMISE_NOTHING) {
            markFree(told, document, regex);
        }
        try (var files = Files.newDirectoryStream(root.resolve("src/test/java"), "*Test.java")) {
            for (Path file : files) {
                markQuoted(told, document, Files.readString(file));
            }
        }
        tellUntold(told, document);
        C.end();
    }

    private static void markFree(boolean[] told, String document, String regex) {
        Matcher m = Pattern.compile(regex).matcher(document);
        int found = 0;
        for (; m.find(); found++) {
            mark(told, m.start(), m.end());
        }
        C.due("whether the document has " + regex, found > 0 ? 1 : 0, 1);
    }

    private static void mark(boolean[] told, int from, int to) {
        for (int place = from; place < to; place++) {
            told[place] = true;
        }
    }

    private static void markQuoted(boolean[] told, String document, String test) {
        Matcher quoted = QUOTED.matcher(test);
        while (quoted.find()) {
            StringBuilder words = new StringBuilder();
            Matcher text = TEXT.matcher(quoted.group(1));
            while (text.find()) {
                words.append(text.group(1).replace("\\\"", "\""));
            }
            int place = document.indexOf(words.toString());
            C.due("whether the document says \"" + words + "\"", place >= 0 ? 1 : 0, 1);
            if (place >= 0) {
                mark(told, place, place + words.length());
            }
        }
    }

    private static void tellUntold(boolean[] told, String document) {
        int from = 0;
        for (int place = 0; place <= document.length(); place++) {
            if (place == document.length() || told[place]) {
                String untold = document.substring(from, place);
                if (untold.matches(".*[A-Za-z0-9].*")) {
                    C.due("how much is tested by no quoted sentence: " + untold, untold.length(), 0);
                }
                from = place + 1;
            }
        }
    }
}
