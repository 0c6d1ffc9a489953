import java.lang.reflect.Method;
import java.lang.reflect.Modifier;
import java.nio.charset.StandardCharsets;

/** What the tests share: comparing answers with those due, running named tests, and telling texts. */
final class Due {
    private int wrong = 0;
    private int asked = 0;
    private int named = 0;

    void is(String call, long got, long want) {
        asked++;
        if (got != want) {
            wrong++;
            System.out.println(call + " answered " + got + ", due is " + want);
        }
    }

    void row(String call, long[] got, long... want) {
        is(call + " length", got.length, want.length);
        for (int i = 0; i < Math.min(got.length, want.length); i++) {
            is(call + " [" + i + "]", got[i], want[i]);
        }
    }

    int wrong() {
        return wrong;
    }

    /** Runs every test of a class, those named after a promise or the terms, and names the ones that fail. */
    void each(Class<?> tests) {
        for (Method test : tests.getDeclaredMethods()) {
            String name = test.getName();
            if (!Modifier.isStatic(test.getModifiers()) || !name.startsWith("promise") && !name.startsWith("terms")) continue;
            named++;
            int before = wrong;
            int askedBefore = asked;
            try {
                test.setAccessible(true);
                test.invoke(null);
            } catch (ReflectiveOperationException e) {
                wrong++;
                System.out.println(e.getCause() == null ? e : e.getCause());
            }
            if (asked == askedBefore) wrong++;
            if (wrong > before) System.out.println("NOT HELD: " + name);
        }
    }

    void close() {
        System.out.println((named > 0 ? named + " tests, " : "") + asked + " answers, " + wrong + " wrong");
        if (wrong != 0 || asked == 0) {
            System.exit(1);
        }
    }

    static void feed(SplitChannel x, String text) {
        feed(x, text.getBytes(StandardCharsets.ISO_8859_1));
    }

    /** Only from an empty tape: the last call's filling bytes are cut off again. */
    static void feed(SplitChannel x, byte[] bytes) {
        for (int i = 0; i < bytes.length; i += 20) {
            x.feed(four(bytes, i), four(bytes, i + 4), four(bytes, i + 8), four(bytes, i + 12), four(bytes, i + 16));
        }
        x.end(bytes.length);
    }

    private static int four(byte[] bytes, int from) {
        int number = 0;
        for (int i = from; i < from + 4; i++) {
            number = number << 8 | (i < bytes.length ? bytes[i] & 255 : 0);
        }
        return number;
    }

    static int tell(SplitChannel x, String text) {
        feed(x, text);
        return x.channel();
    }

    static SplitChannel of(String text) {
        SplitChannel x = new SplitChannel();
        tell(x, text);
        return x;
    }

    // ---- lines of a text

    static String channel(int law, int slots, int skips, int window) {
        return "channel law " + law + " slots " + slots + " skips " + skips + " window " + window + ";";
    }

    static String sender(int at, String bits) {
        return "sender at " + at + " bits " + bits + ";";
    }

    static String noise(int at, String how) {
        return "noise at " + at + " as " + how + ";";
    }

    // ---- rows of answers

    static long[] slots(SplitChannel x, int what, int many) {
        long[] row = new long[many];
        for (int t = 0; t < many; t++) row[t] = x.slot(t, what);
        return row;
    }

    static long[] answers(SplitChannel x, String question, int many) {
        long[] row = new long[many];
        for (int i = 0; i < many; i++) {
            switch (question) {
                case "delivered" -> row[i] = x.delivered(i);
                case "tries" -> row[i] = x.tries(i);
                case "taken" -> row[i] = x.taken(i);
                case "order" -> row[i] = x.order(i);
                case "heard" -> row[i] = x.heard(i);
                default -> row[i] = x.behind(i);
            }
        }
        return row;
    }

    /** An answer for each of 0 to many - 1 would be too long to write: the same one for all. */
    static long[] same(int many, long answer) {
        long[] row = new long[many];
        java.util.Arrays.fill(row, answer);
        return row;
    }
}
