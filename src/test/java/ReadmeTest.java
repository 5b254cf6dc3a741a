import java.io.IOException;
import java.lang.reflect.Method;
import java.lang.reflect.Modifier;
import java.nio.file.Files;
import java.nio.file.Path;
import java.util.regex.Matcher;
import java.util.regex.Pattern;

/** That README.md tells what is so: the answers of its example, each call by its name, what a refusal answers. */
public final class ReadmeTest {
    private static final Pattern TYPED = Pattern.compile("for \\(char letter : \"([^\"]*)\"\\.toCharArray\\(\\)\\)");
    private static final Pattern ANSWERED = Pattern.compile("x\\.(\\w+)\\(([-0-9, ]*)\\); +// (-?[0-9]+): ");
    private static final Checks C = new Checks();

    public static void main(String[] args) throws Exception {
        String readme = Files.readString(Path.of(System.getProperty("project.root"), "README.md"));
        example(readme.substring(readme.indexOf("```java"), readme.lastIndexOf("```")));
        calls(readme);
        refusals(readme);
        commands(readme);
        C.end();
    }

    private static void example(String code) throws Exception {
        Matcher typed = TYPED.matcher(code);
        C.due("whether a court is typed", typed.find() ? 1 : 0, 1);
        HeardSecond x = Checks.pageOf(typed.group(1));
        for (String line : code.substring(typed.end()).split("\n")) {
            if (line.startsWith("x.")) {
                Matcher answered = ANSWERED.matcher(line);
                C.due("whether an answer is told: " + line, answered.find() ? 1 : 0, 1);
                C.due(line, ask(x, answered.group(1), answered.group(2)), Long.parseLong(answered.group(3)));
            }
        }
    }

    private static long ask(HeardSecond x, String name, String arguments) throws Exception {
        String[] told = arguments.isEmpty() ? new String[0] : arguments.split(", *");
        Class<?>[] types = new Class<?>[told.length];
        Object[] numbers = new Object[told.length];
        for (int i = 0; i < told.length; i++) {
            types[i] = int.class;
            numbers[i] = Integer.valueOf(told[i]);
        }
        return ((Number) HeardSecond.class.getMethod(name, types).invoke(x, numbers)).longValue();
    }

    /** Each call has a line of a table: its name, and as many arguments as it takes. */
    private static void calls(String readme) {
        for (Method m : HeardSecond.class.getDeclaredMethods()) {
            if (Modifier.isPublic(m.getModifiers())) {
                int commas = Math.max(0, m.getParameterCount() - 1);
                String arguments = m.getParameterCount() == 0 ? "" : "\\w+(, \\w+){" + commas + "}";
                String row = "(?s).*\n\\| `" + m.getName() + "\\(" + arguments + "\\)` \\| [^|\n]{8,} \\|\n.*";
                C.due("whether README.md tells what " + m.getName() + " is for", readme.matches(row) ? 1 : 0, 1);
            }
        }
    }

    private static void refusals(String readme) {
        told(readme, "UNKNOWN", HeardSecond.UNKNOWN);
        told(readme, "OUTSIDE", HeardSecond.OUTSIDE);
        told(readme, "STATE", HeardSecond.STATE);
        told(readme, "FULL", HeardSecond.FULL);
        has(readme, "A refused call changes nothing");
        has(readme, "`NONE` (" + HeardSecond.NONE + ")");
        has(readme, "512 calls");
    }

    private static void told(String readme, String name, int number) {
        has(readme, "| `" + name + "` | " + number + " |");
    }

    private static void has(String readme, String words) {
        C.due("whether README.md says \"" + words + "\"", readme.contains(words) ? 1 : 0, 1);
    }

    /** Each test of the project is named there. */
    private static void commands(String readme) throws IOException {
        has(readme, "\n    .ci/run\n");
        Path tests = Path.of(System.getProperty("project.root"), "src/test/java");
        try (var files = Files.newDirectoryStream(tests, "*Test.java")) {
            for (Path file : files) {
                has(readme, "`" + file.getFileName().toString().replace(".java", "") + "`");
            }
        }
    }
}
