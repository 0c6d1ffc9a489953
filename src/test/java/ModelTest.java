import java.util.Random;

/** Many calls by chance (of a told seed), each answered by the class and by the model. */
public final class ModelTest {
    private static final Due DUE = new Due();

    public static void main(String[] args) {
        for (int run = 0; run < 1500 && DUE.wrong() == 0; run++) {
            Random r = new Random(20261119L + run);
            SplitChannel x = new SplitChannel();
            Model m = new Model();
            String name = "run " + run + " ";
            for (int i = 0; i < 6; i++) {
                tell(name, x, m, r);
                some(name, x, m, r);
                if (r.nextInt(3) == 0) whole(name, x, m);
            }
        }
        DUE.close();
    }

    private static void tell(String name, SplitChannel x, Model m, Random r) {
        String text = text(r);
        if (r.nextInt(4) == 0) text = spoilt(text, r);
        byte[] bytes = text.getBytes(java.nio.charset.StandardCharsets.ISO_8859_1);
        for (int i = 0; i < bytes.length; i += 20) {
            int[] n = new int[5];
            for (int k = 0; k < 20; k++) {
                n[k / 4] = n[k / 4] << 8 | (i + k < bytes.length ? bytes[i + k] & 255 : 0);
            }
            DUE.is(name + "feed", x.feed(n[0], n[1], n[2], n[3], n[4]), m.feed(n[0], n[1], n[2], n[3], n[4]));
        }
        DUE.is(name + "end", x.end(bytes.length), m.end(bytes.length));
        DUE.is(name + "channel of " + text, x.channel(), m.channel());
        for (int i = -1; i < 3; i++) DUE.is(name + "fault(" + i + ") of " + text, x.fault(i), m.fault(i));
    }

    private static String text(Random r) {
        StringBuilder t = new StringBuilder();
        if (r.nextInt(30) == 0) return "";
        int slots = r.nextInt(6) == 0 ? 1 + r.nextInt(200) : 1 + r.nextInt(40);
        t.append("channel law ").append(r.nextInt(4)).append(" slots ").append(slots);
        t.append(" skips ").append(r.nextInt(10)).append(" window ").append(1 + r.nextInt(r.nextBoolean() ? 3 : 20)).append(";");
        int senders = r.nextInt(11);
        int noises = r.nextInt(3) == 0 ? 0 : r.nextInt(11);
        int spread = 1 + r.nextInt(r.nextBoolean() ? 4 : 60);
        while (senders + noises > 0) {
            if (r.nextInt(senders + noises) < senders) {
                t.append(r.nextBoolean() ? "sender at " : "sender\nat").append(r.nextInt(spread)).append(" bits ");
                int n = 1 + r.nextInt(r.nextBoolean() ? 3 : 12);
                for (int i = 0; i < n; i++) t.append(r.nextInt(2));
                senders--;
            } else {
                t.append("noise at ").append(r.nextInt(r.nextInt(20) == 0 ? 10 : 200) % 200 / (1 + r.nextInt(12)));
                t.append(" as ").append(new String[] {"none", "one", "many"}[r.nextInt(3)]);
                noises--;
            }
            t.append(r.nextInt(5) == 0 ? " ; " : ";");
        }
        return t.toString();
    }

    private static String spoilt(String text, Random r) {
        StringBuilder t = new StringBuilder(text);
        for (int i = 1 + r.nextInt(2); i > 0 && t.length() > 0; i--) {
            int at = r.nextInt(t.length());
            switch (r.nextInt(4)) {
                case 0 -> t.deleteCharAt(at);
                case 1 -> t.insert(at, " ;0129aeghlnost,\n\u00e9A".charAt(r.nextInt(18)));
                case 2 -> t.setLength(at);
                default -> t.setCharAt(at, " ;0129aeghlnost,\n\u00ffZ".charAt(r.nextInt(18)));
            }
        }
        return t.toString();
    }

    private static void some(String name, SplitChannel x, Model m, Random r) {
        for (int i = 0; i < 12; i++) {
            int a = r.nextInt(14) - 1;
            int b = r.nextInt(6) - 1;
            int slot = r.nextInt(60) - 1;
            int n = r.nextInt(14);
            int bits = r.nextInt(1 << Math.max(0, r.nextInt(14)));
            switch (r.nextInt(20)) {
                case 0, 1, 2, 3 -> DUE.is(name + "add", x.add(slot, bits, n), m.add(slot, bits, n));
                case 4, 5, 6, 7 -> DUE.is(name + "disturb", x.disturb(slot, b), m.disturb(slot, b));
                case 8, 9, 10 -> DUE.is(name + "rule", x.rule(b), m.rule(b));
                case 11, 12 -> DUE.is(name + "undo", x.undo(), m.undo());
                case 13 -> { if (r.nextInt(4) == 0) DUE.is(name + "anew", x.anew(), m.anew()); }
                case 14 -> DUE.is(name + "by", x.by(b, a), m.by(b, a));
                case 15 -> DUE.is(name + "without", x.without(a), m.without(a));
                case 16 -> DUE.is(name + "worst", x.worst(), m.worst());
                case 17 -> DUE.is(name + "alone " + a, x.alone(a), m.alone(a));
                default -> whole(name, x, m);
            }
        }
    }

    private static void whole(String name, SplitChannel x, Model m) {
        for (int i = -1; i < 10; i++) DUE.is(name + "count " + i, x.count(i), m.count(i));
        for (int t = -1; t <= Math.min(201, m.count(1)); t++) {
            for (int i = -1; i < 6; i++) DUE.is(name + "slot " + t + " " + i, x.slot(t, i), m.slot(t, i));
            for (int i = -1; i < 11; i++) DUE.is(name + "sends " + t + " " + i, x.sends(t, i), m.sends(t, i));
        }
        for (int i = -1; i < 12; i++) {
            for (int k = -1; k < 15; k++) DUE.is(name + "sender " + i + " " + k, x.sender(i, k), m.sender(i, k));
            for (int k = -1; k < 4; k++) DUE.is(name + "epoch " + i + " " + k, x.epoch(i, k), m.epoch(i, k));
            for (int k = -1; k < 3; k++) DUE.is(name + "noise " + i + " " + k, x.noise(i, k), m.noise(i, k));
            DUE.is(name + "delivered " + i, x.delivered(i), m.delivered(i));
            DUE.is(name + "tries " + i, x.tries(i), m.tries(i));
            DUE.is(name + "taken " + i, x.taken(i), m.taken(i));
            DUE.is(name + "order " + i, x.order(i), m.order(i));
            DUE.is(name + "heard " + i, x.heard(i), m.heard(i));
            DUE.is(name + "behind " + i, x.behind(i), m.behind(i));
        }
        DUE.is(name + "all", x.all(), m.all());
        DUE.is(name + "done", x.done(), m.done());
        DUE.is(name + "collided", x.collided(), m.collided());
        DUE.is(name + "skips", x.skips(), m.skips());
        DUE.is(name + "deepest", x.deepest(), m.deepest());
        DUE.is(name + "epochs", x.epochs(), m.epochs());
    }
}
