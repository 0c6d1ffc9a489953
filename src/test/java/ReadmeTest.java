import java.io.IOException;
import java.lang.reflect.Method;
import java.nio.file.Files;
import java.nio.file.Path;
import java.util.Set;
import java.util.TreeSet;
import java.util.regex.Matcher;
import java.util.regex.Pattern;

/** README.md: each answer that it shows is one that the class gives, and each call of the face is named there. */
public final class ReadmeTest {
    private static final Due DUE = new Due();
    private static final Pattern BLOCK = Pattern.compile("(?ms)^```java\\n(.*?)^```$");
    private static final Pattern CALL = Pattern.compile("x\\.(\\w+)\\(([^)]*)\\);\\s*// (-?\\d+)\\b.*");
    private static final String MADE = "SplitChannel x = new SplitChannel();";

    /** The one that the page's calls go to, from block to block. */
    private static SplitChannel x;

    public static void main(String[] args) throws IOException, ReflectiveOperationException {
        String page = Files.readString(Path.of("README.md"));
        Matcher block = BLOCK.matcher(page);
        int blocks = 0;
        while (block.find()) {
            blocks++;
            for (String line : block.group(1).split("\n")) read(line);
        }
        DUE.is("blocks are found", blocks > 0 ? 1 : 0, 1);
        named(page);
        DUE.close();
    }

    private static void read(String line) throws ReflectiveOperationException {
        if (line.startsWith("// ")) return;
        if (line.equals(MADE)) {
            x = new SplitChannel();
            return;
        }
        Matcher call = CALL.matcher(line);
        boolean told = call.matches();
        DUE.is("a call and its answer: " + line, told ? 1 : 0, 1);
        if (told) DUE.is(line, answer(call.group(1), call.group(2)), Long.parseLong(call.group(3)));
    }

    private static long answer(String name, String numbers) throws ReflectiveOperationException {
        String[] parts = numbers.isEmpty() ? new String[0] : numbers.split(", ");
        Object[] values = new Object[parts.length];
        Class<?>[] types = new Class<?>[parts.length];
        for (int i = 0; i < parts.length; i++) {
            values[i] = Integer.decode(parts[i]);
            types[i] = int.class;
        }
        return ((Number) SplitChannel.class.getMethod(name, types).invoke(x, values)).longValue();
    }

    private static void named(String page) {
        Set<String> names = new TreeSet<>();
        for (Method m : SplitChannel.class.getDeclaredMethods()) {
            if (java.lang.reflect.Modifier.isPublic(m.getModifiers())) names.add(m.getName());
        }
        for (String name : names) {
            DUE.is(name + " is told of", Pattern.compile("`" + name + "[`(]").matcher(page).find() ? 1 : 0, 1);
        }
    }
}
