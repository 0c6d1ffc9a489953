import java.nio.charset.StandardCharsets;
import java.util.Random;

/** Many calls by chance (of a told seed), each answered by the class and by the model. */
public final class ModelTest {
    private static final Due DUE = new Due();
    private static final int RUNS = 12000;
    /** Behind so many calls of an object its answers are free: no more are asked of one. */
    private static final int MOST_CALLS = 512;
    /** What telling a text takes at most: feeds, end, channel and faults. */
    private static final int TELLING = 40;

    private final SplitChannel x = new SplitChannel();
    private final Model m = new Model();
    private final String name;
    private final Random r;
    private int calls = 0;

    private ModelTest(int run) {
        name = "run " + run + " ";
        r = new Random(20261119L + run);
    }

    public static void main(String[] args) {
        for (int run = 0; run < RUNS && DUE.wrong() == 0; run++) {
            new ModelTest(run).play();
        }
        DUE.close();
    }

    private void play() {
        while (calls + TELLING <= MOST_CALLS) {
            tell();
            boolean busy = r.nextBoolean();
            for (int i = r.nextInt(150); i > 0 && calls < MOST_CALLS; i--) {
                if (r.nextInt(busy ? 2 : 9) == 0) {
                    act();
                } else if (r.nextInt(3) == 0) {
                    askOfSlot();
                } else {
                    ask();
                }
            }
        }
        if (calls > MOST_CALLS) DUE.is(name + "calls of one object", calls, MOST_CALLS);
    }

    private void is(String call, long got, long want) {
        calls++;
        DUE.is(got == want ? call : name + call, got, want);
    }

    // ---- texts

    private void tell() {
        String text = text();
        if (r.nextInt(4) == 0) text = spoilt(text);
        byte[] bytes = text.getBytes(StandardCharsets.ISO_8859_1);
        for (int i = 0; i < bytes.length; i += 20) {
            int[] n = new int[5];
            for (int k = 0; k < 20; k++) {
                n[k / 4] = n[k / 4] << 8 | (i + k < bytes.length ? bytes[i + k] & 255 : 0);
            }
            is("feed", x.feed(n[0], n[1], n[2], n[3], n[4]), m.feed(n[0], n[1], n[2], n[3], n[4]));
        }
        is("end", x.end(bytes.length), m.end(bytes.length));
        is("channel of " + text, x.channel(), m.channel());
        for (int i = -1; i < 3; i++) is("fault(" + i + ") of " + text, x.fault(i), m.fault(i));
    }

    private String text() {
        StringBuilder t = new StringBuilder();
        if (r.nextInt(30) == 0) return "";
        int slots = r.nextInt(6) == 0 ? 1 + r.nextInt(200) : 1 + r.nextInt(40);
        t.append("channel law ").append(r.nextInt(4)).append(" slots ").append(slots);
        t.append(" skips ").append(r.nextInt(10)).append(" window ").append(1 + r.nextInt(r.nextBoolean() ? 3 : 20)).append(";");
        int senders = r.nextInt(11);
        int noises = r.nextInt(3) == 0 ? 0 : r.nextInt(11);
        int spread = 1 + r.nextInt(r.nextBoolean() ? 4 : 60);
        while (senders + noises > 0) {
            if (r.nextInt(senders + noises) < senders) {
                t.append(r.nextBoolean() ? "sender at " : "sender\nat").append(r.nextInt(spread)).append(" bits ");
                int n = 1 + r.nextInt(r.nextBoolean() ? 3 : 12);
                for (int i = 0; i < n; i++) t.append(r.nextInt(2));
                senders--;
            } else {
                t.append("noise at ").append(r.nextInt(r.nextInt(20) == 0 ? 10 : 200) % 200 / (1 + r.nextInt(12)));
                t.append(" as ").append(new String[] {"none", "one", "many"}[r.nextInt(3)]);
                noises--;
            }
            t.append(r.nextInt(5) == 0 ? " ; " : ";");
        }
        return t.toString();
    }

    private String spoilt(String text) {
        StringBuilder t = new StringBuilder(text);
        for (int i = 1 + r.nextInt(2); i > 0 && t.length() > 0; i--) {
            int at = r.nextInt(t.length());
            switch (r.nextInt(4)) {
                case 0 -> t.deleteCharAt(at);
                case 1 -> t.insert(at, " ;0129aeghlnost,\n\u00e9A".charAt(r.nextInt(18)));
                case 2 -> t.setLength(at);
                default -> t.setCharAt(at, " ;0129aeghlnost,\n\u00ffZ".charAt(r.nextInt(18)));
            }
        }
        return t.toString();
    }

    // ---- acts and questions, their arguments now and then beside what there is

    private void act() {
        int slot = r.nextInt(60) - 1;
        int few = r.nextInt(6) - 1;
        switch (r.nextInt(16)) {
            case 0, 1, 2, 3 -> {
                int n = r.nextInt(14);
                int bits = r.nextInt(1 << r.nextInt(14));
                is("add", x.add(slot, bits, n), m.add(slot, bits, n));
            }
            case 4, 5, 6, 7 -> is("disturb", x.disturb(slot, few), m.disturb(slot, few));
            case 8, 9, 10 -> is("rule", x.rule(few), m.rule(few));
            case 11, 12, 13 -> is("undo", x.undo(), m.undo());
            case 14 -> { if (r.nextInt(4) == 0) is("anew", x.anew(), m.anew()); }
            default -> is("count 6", x.count(6), m.count(6));
        }
    }

    private void askOfSlot() {
        int slot = r.nextInt(m.count(1) + 2) - 1;
        int what = r.nextInt(7) - 1;
        int sender = r.nextInt(m.count(4) + 2) - 1;
        if (r.nextInt(3) > 0) {
            is("slot " + slot + " " + what, x.slot(slot, what), m.slot(slot, what));
        } else {
            is("sends " + slot + " " + sender, x.sends(slot, sender), m.sends(slot, sender));
        }
    }

    private void ask() {
        int i = r.nextInt(13) - 1;
        int k = r.nextInt(6) - 1;
        switch (r.nextInt(22)) {
            case 0 -> is("count " + i, x.count(i), m.count(i));
            case 1 -> is("sender " + i, x.sender(i, k * 3), m.sender(i, k * 3));
            case 2 -> is("sender " + i, x.sender(i, k * 3 + 1), m.sender(i, k * 3 + 1));
            case 3 -> is("sender " + i, x.sender(i, k * 3 + 2), m.sender(i, k * 3 + 2));
            case 4 -> is("delivered " + i, x.delivered(i), m.delivered(i));
            case 5 -> is("tries " + i, x.tries(i), m.tries(i));
            case 6 -> is("taken " + i, x.taken(i), m.taken(i));
            case 7 -> is("order " + i, x.order(i), m.order(i));
            case 8 -> is("heard " + k, x.heard(k), m.heard(k));
            case 9 -> is("behind " + i, x.behind(i), m.behind(i));
            case 10 -> is("epoch " + i + " " + k, x.epoch(i, k), m.epoch(i, k));
            case 11 -> is("noise " + i + " " + k, x.noise(i, k), m.noise(i, k));
            case 12 -> is("by " + k + " " + i, x.by(k, i / 2), m.by(k, i / 2));
            case 13 -> is("without " + i, x.without(i), m.without(i));
            case 14 -> is("alone " + i, x.alone(i), m.alone(i));
            case 15 -> is("worst", x.worst(), m.worst());
            case 16 -> is("all", x.all(), m.all());
            case 17 -> is("done", x.done(), m.done());
            case 18 -> is("collided", x.collided(), m.collided());
            case 19 -> is("skips", x.skips(), m.skips());
            case 20 -> is("deepest", x.deepest(), m.deepest());
            default -> is("epochs", x.epochs(), m.epochs());
        }
    }
}
