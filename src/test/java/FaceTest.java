import java.lang.reflect.Constructor;
import java.lang.reflect.Field;
import java.lang.reflect.Method;
import java.lang.reflect.Modifier;
import java.util.ArrayList;
import java.util.Arrays;
import java.util.Collections;
import java.util.List;

/** The public face: every member of the document, and no other that is not private. */
public final class FaceTest {
    private static final String[] METHODS = {
        "int feed(int, int, int, int, int)", "int end(int)", "int channel()", "int fault(int)", "int count(int)",
        "int sender(int, int)", "int slot(int, int)", "int sends(int, int)", "int delivered(int)", "int tries(int)",
        "int taken(int)", "int order(int)", "int all()", "int done()", "int heard(int)", "int collided()",
        "int skips()", "int deepest()", "int epochs()", "int epoch(int, int)", "int behind(int)", "int by(int, int)",
        "int without(int)", "int noise(int, int)", "int alone(int)", "int worst()", "long mean(int, int, int)",
        "long leaning(int, int, int, int, int)", "long chance(int, int, int, int)", "int best(int)",
        "int add(int, int, int)", "int disturb(int, int)", "int rule(int)", "int undo()", "int anew()"
    };

    public static void main(String[] args) {
        Due due = new Due();
        due.is("public and final", SplitChannel.class.getModifiers() & (Modifier.PUBLIC | Modifier.FINAL),
            Modifier.PUBLIC | Modifier.FINAL);
        List<String> want = new ArrayList<>(Arrays.asList(METHODS));
        List<String> got = new ArrayList<>();
        List<String> hidden = new ArrayList<>();
        for (Method m : SplitChannel.class.getDeclaredMethods()) {
            if (m.isSynthetic()) continue;
            if (Modifier.isPrivate(m.getModifiers())) hidden.add(m.getName());
            else got.add(told(m));
        }
        Collections.sort(want);
        Collections.sort(got);
        due.is("the methods " + got, got.equals(want) ? 1 : 0, 1);
        for (String m : METHODS) {
            String name = m.substring(m.indexOf(' ') + 1, m.indexOf('('));
            due.is("private " + name, hidden.contains(name) ? 1 : 0, 0);
        }
        int open = 0;
        for (Field f : SplitChannel.class.getDeclaredFields()) {
            if (!f.isSynthetic() && !Modifier.isPrivate(f.getModifiers())) open++;
        }
        due.is("fields of the face", open, 1);
        due.is("NONE", SplitChannel.NONE, -1);
        Constructor<?>[] made = SplitChannel.class.getDeclaredConstructors();
        due.is("constructors", made.length, 1);
        due.is("its parameters", made[0].getParameterCount(), 0);
        due.is("it is public", made[0].getModifiers(), Modifier.PUBLIC);
        due.close();
    }

    private static String told(Method m) {
        StringBuilder text = new StringBuilder();
        text.append(m.getReturnType()).append(' ').append(m.getName()).append('(');
        for (Class<?> p : m.getParameterTypes()) {
            text.append(text.charAt(text.length() - 1) == '(' ? "" : ", ").append(p);
        }
        return text.append(')').toString();
    }
}
