import java.nio.charset.StandardCharsets;

/** What the tests share: comparing answers with those due, and feeding texts. */
final class Due {
    private int wrong = 0;
    private int asked = 0;

    void is(String call, long got, long want) {
        asked++;
        if (got != want) {
            wrong++;
            System.out.println(call + " answered " + got + ", due is " + want);
        }
    }

    void row(String call, long[] got, long... want) {
        is(call + " length", got.length, want.length);
        for (int i = 0; i < Math.min(got.length, want.length); i++) {
            is(call + " [" + i + "]", got[i], want[i]);
        }
    }

    int wrong() {
        return wrong;
    }

    void close() {
        System.out.println(asked + " answers, " + wrong + " wrong");
        if (wrong != 0 || asked == 0) {
            System.exit(1);
        }
    }

    static void feed(SplitChannel x, String text) {
        feed(x, text.getBytes(StandardCharsets.ISO_8859_1));
    }

    /** Only from an empty tape: the last call's filling bytes are cut off again. */
    static void feed(SplitChannel x, byte[] bytes) {
        for (int i = 0; i < bytes.length; i += 20) {
            x.feed(four(bytes, i), four(bytes, i + 4), four(bytes, i + 8), four(bytes, i + 12), four(bytes, i + 16));
        }
        x.end(bytes.length);
    }

    private static int four(byte[] bytes, int from) {
        int number = 0;
        for (int i = from; i < from + 4; i++) {
            number = number << 8 | (i < bytes.length ? bytes[i] & 255 : 0);
        }
        return number;
    }

    static int tell(SplitChannel x, String text) {
        feed(x, text);
        return x.channel();
    }

    static SplitChannel of(String text) {
        SplitChannel x = new SplitChannel();
        tell(x, text);
        return x;
    }
}
