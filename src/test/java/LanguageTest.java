import java.io.IOException;
import java.lang.reflect.Constructor;
import java.lang.reflect.Field;
import java.lang.reflect.Method;
import java.lang.reflect.Modifier;
import java.nio.file.Files;
import java.nio.file.Path;
import java.util.Arrays;
import java.util.Set;
import java.util.TreeSet;

/** What of LANGUAGE.md can be looked up in the source and in the class's face. */
public final class LanguageTest {
    private static final Checks C = new Checks();
    private static final Set<String> METHODS = Set.of("letter(int)", "blank()", "fault()", "court()", "seat(int,int)",
        "as(int,int)", "breath(int)", "get(int,int)", "play(int,int)", "hear(int,int)", "forget()", "rows(int,int)",
        "when()", "sessions(int,int,int)", "image()", "restore()", "count(int)", "digest()");
    private static final Set<String> CONSTANTS = Set.of("NONE", "UNKNOWN", "OUTSIDE", "STATE", "FULL");
    private static final String[] BARRED = {"throw", "throws", "try", "catch", "finally", "synchronized", "assert",
        "package", "Object", "Exception", "Random", "Thread", "volatile", "transient", "native", "protected",
        "System\\.(?!arraycopy\\b)\\w+", "\\w+Exact", "import (?!java\\.util\\.(ArrayList|List|Iterator|Arrays);).*"};

    public static void main(String[] args) throws IOException {
        String source = Files.readString(Path.of(System.getProperty("project.root"), "src/main/java/HeardSecond.java"));
        face();
        nested();
        words(source);
        lines(source);
        C.end();
    }

    private static void no(String what, boolean found) {
        C.due(what, found ? 1 : 0, 0);
    }

    private static void face() {
        Set<String> methods = new TreeSet<>();
        for (Method m : HeardSecond.class.getDeclaredMethods()) {
            String types = Arrays.toString(m.getParameterTypes()).replaceAll("[\\[\\] ]", "");
            if (Modifier.isPublic(m.getModifiers())) {
                methods.add(m.getName() + "(" + types + ")");
                C.due("the answer of " + m.getName() + " is a long", m.getReturnType() == long.class ? 1 : 0,
                    m.getName().equals("digest") ? 1 : 0);
            } else {
                no("a method that is not private: " + m, !Modifier.isPrivate(m.getModifiers()) && !m.isSynthetic());
            }
        }
        C.due("public methods as in the document", methods.equals(new TreeSet<>(METHODS)) ? 1 : 0, 1);
        Set<String> constants = new TreeSet<>();
        for (Field f : HeardSecond.class.getDeclaredFields()) {
            if (Modifier.isPublic(f.getModifiers())) {
                constants.add(f.getName());
            } else {
                no("a field that is not private: " + f, !Modifier.isPrivate(f.getModifiers()));
            }
        }
        C.due("public constants as in the document", constants.equals(new TreeSet<>(CONSTANTS)) ? 1 : 0, 1);
        Constructor<?>[] makers = HeardSecond.class.getDeclaredConstructors();
        C.due("constructors", makers.length, 1);
        C.due("public constructors", HeardSecond.class.getConstructors().length, 1);
        no("a class that is not final", !Modifier.isFinal(HeardSecond.class.getModifiers()));
    }

    private static void nested() {
        Set<String> names = new TreeSet<>();
        METHODS.forEach(name -> names.add(name.substring(0, name.indexOf('('))));
        Class<?>[] inside = HeardSecond.class.getDeclaredClasses();
        no("more than twelve classes", inside.length > 11);
        no("more than twenty fields", fields(HeardSecond.class) > 20);
        methods(HeardSecond.class, names);
        for (Class<?> c : inside) {
            no("an inner class: " + c, !Modifier.isStatic(c.getModifiers()) || Modifier.isPublic(c.getModifiers()));
            no("more than twenty fields: " + c, fields(c) > 20);
            methods(c, names);
            for (Field f : c.getDeclaredFields()) {
                no("a static field that is not final: " + f,
                    Modifier.isStatic(f.getModifiers()) && !Modifier.isFinal(f.getModifiers()));
            }
        }
    }

    private static void methods(Class<?> c, Set<String> names) {
        for (Method m : c.getDeclaredMethods()) {
            no("a public one's name: " + m, Modifier.isPrivate(m.getModifiers()) && names.contains(m.getName()));
            no("more than seven parameters: " + m, m.getParameterCount() > 7);
        }
    }

    private static int fields(Class<?> c) {
        int sum = 0;
        for (Field f : c.getDeclaredFields()) {
            sum += Modifier.isStatic(f.getModifiers()) ? 0 : 1;
        }
        return sum;
    }

    private static void words(String source) {
        String code = source.replaceAll("(?s)/\\*.*?\\*/", "").replaceAll("//[^\n]*", "").replaceAll("'.'|\"[^\"\n]*\"", "0");
        for (String word : BARRED) {
            no("the word " + word, code.matches("(?s).*\\b" + word + "\\b.*"));
        }
        no("a lambda", code.replaceAll("\\b(case [^:;>]*|default )->", "").contains("->"));
        no("a method reference", code.contains("::"));
        no("a sign beyond 127", !code.matches("(?s)[\\x01-\\x7f]*"));
    }

    /** A method begins and ends at 4 or 8 blanks with a brace. */
    private static void lines(String source) {
        String[] lines = source.split("\n");
        int began = -1;
        for (int i = 0; i < lines.length; i++) {
            if (lines[i].matches("( {4}| {8})\\S.*\\) \\{")) {
                began = i;
            }
            if (lines[i].matches("( {4}| {8})\\}") && began >= 0) {
                no("a long method, ending in line " + (i + 1), i - began > 60);
                began = -1;
            }
        }
    }
}
