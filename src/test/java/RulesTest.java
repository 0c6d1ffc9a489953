import java.io.IOException;
import java.lang.reflect.Field;
import java.lang.reflect.Method;
import java.lang.reflect.Modifier;
import java.nio.file.Files;
import java.nio.file.Path;
import java.util.ArrayList;
import java.util.List;
import java.util.regex.Matcher;
import java.util.regex.Pattern;

/** What of LANGUAGE.md can be seen from the source's text, and from the classes that come of it. */
public final class RulesTest {
    private static final Due DUE = new Due();
    private static final Path MAIN = Path.of("src/main/java");
    private static String source;
    private static String code;

    public static void main(String[] args) throws IOException {
        source = Files.readString(MAIN.resolve("SplitChannel.java"));
        code = source.replaceAll("(?s)/\\*.*?\\*/|//[^\n]*", " ").replaceAll("\"[^\"\n]*\"", "\"\"").replaceAll("'[^']+'", "' '");
        oneFile();
        library();
        words();
        classes();
        methodLengths();
        DUE.close();
    }

    private static void none(String rule, String pattern) {
        Matcher m = Pattern.compile(pattern).matcher(code);
        DUE.is(rule + (m.find() ? ": " + m.group() : ""), m.reset().find() ? 1 : 0, 0);
    }

    private static void oneFile() throws IOException {
        try (var files = Files.walk(MAIN)) {
            DUE.is("files", files.filter(Files::isRegularFile).count(), 1);
        }
        none("no package", "(?m)^\\s*package\\b");
        DUE.is("characters", source.chars().filter(c -> c > 126).count(), 0);
    }

    /** Rules 3, 4 and 13. */
    private static void library() {
        Matcher m = Pattern.compile("import ([\\w.]+);").matcher(code);
        while (m.find()) {
            DUE.is("import " + m.group(1), m.group(1).matches("java\\.util\\.(Arrays|ArrayList|List|Iterator|NoSuchElementException)") ? 1 : 0, 1);
        }
        none("only arraycopy of System", "\\bSystem\\.(?!arraycopy\\b)");
        none("of Arrays alone", "\\bArrays\\.(?!(copyOf|copyOfRange|fill)\\b)");
        none("none whose name ends in Exact", "\\w+Exact\\b");
        none("no other class of the library", "\\b(Thread|Random|Runtime|Class|Object|Map|Set|Optional|Stream|LocalDate|Instant|Files)\\b");
        none("two dimensions of numbers at most", "\\[\\s*\\d*\\s*\\]\\s*\\[[^\\]]*\\]\\s*\\[");
    }

    /** Rules 2, 6 and 10; the program throws nothing, so it needs none of the words round it. */
    private static void words() {
        none("no lambda, no method reference", "->|::");
        none("no exceptions", "\\b(throw|throws|try|catch|finally)\\b");
        none("no such words", "\\b(synchronized|assert|yield|volatile|transient|native|strictfp|var)\\b");
        none("no static initialiser", "\\bstatic\\s*\\{");
        none("no equals, hashCode, toString of its own", "\\b(equals|hashCode|toString)\\s*\\([^)]*\\)\\s*\\{");
        none("no texts joined by +", "\"\"\\s*\\+|\\+\\s*\"\"");
        none("no public, protected inside", "(?m)^ {8,}(public|protected)\\b");
    }

    /** Rules 1, 5 and 11. */
    private static void classes() {
        List<Class<?>> all = new ArrayList<>(List.of(SplitChannel.class.getDeclaredClasses()));
        for (Class<?> c : all) {
            DUE.is(c.getName() + " is static", Modifier.isStatic(c.getModifiers()) ? 1 : 0, 1);
            DUE.is(c.getName() + " is not open", c.getModifiers() & (Modifier.PUBLIC | Modifier.PROTECTED), 0);
        }
        all.add(SplitChannel.class);
        DUE.is("at most twelve classes", all.size() <= 12 ? 1 : 0, 1);
        for (Class<?> c : all) {
            int fields = 0;
            for (Field f : c.getDeclaredFields()) {
                if (!Modifier.isStatic(f.getModifiers())) fields++;
                else DUE.is(f + " is final", Modifier.isFinal(f.getModifiers()) ? 1 : 0, 1);
            }
            DUE.is("fields of " + c.getName() + ", " + fields, fields <= 20 ? 1 : 0, 1);
            for (Method m : c.getDeclaredMethods()) DUE.is(m + " has seven at most", m.getParameterCount() <= 7 ? 1 : 0, 1);
        }
    }

    /** Rule 11: from a method's head to the brace that stands as far in. */
    private static void methodLengths() {
        Matcher m = Pattern.compile("(?m)^( {4}| {8})(?=\\S)[\\w\\[\\] ]+\\([^()]*\\) \\{\\n(?:.*\\n)*?\\1\\}").matcher(source);
        int methods = 0;
        while (m.find()) {
            methods++;
            long lines = m.group().lines().count();
            DUE.is(m.group().lines().findFirst().get() + " " + lines, lines <= 60 ? 1 : 0, 1);
        }
        DUE.is("methods are found", methods > 100 ? 1 : 0, 1);
    }
}
