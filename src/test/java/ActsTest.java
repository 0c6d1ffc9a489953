/** Promises 32 to 36: add, disturb, rule, undo, anew. */
public final class ActsTest {
    private static final Due DUE = new Due();
    private static final String HEAD = "channel law 0 slots 20 skips 3 window 2;";
    private static final String PAIR = HEAD + "sender at 0 bits 0;sender at 0 bits 1;";

    public static void main(String[] args) {
        add();
        disturb();
        rule();
        back();
        full();
        order();
        hostile();
        DUE.close();
    }

    private static void add() {
        SplitChannel x = Due.of(PAIR);
        DUE.is("add", x.add(5, 6, 4), 3);
        DUE.row("sender 2", new long[] {x.sender(2, 0), x.sender(2, 1), x.sender(2, 2), x.sender(2, 3), x.sender(2, 4),
            x.sender(2, 5), x.sender(2, 6), x.delivered(2), x.count(4), x.count(6), x.count(7)},
            5, 4, 0, 1, 1, 0, -1, 5, 3, 1, 3);
        DUE.row("no such", new long[] {x.add(-1, 0, 1), x.add(200, 0, 1), x.add(0, -1, 1), x.add(0, 2, 1), x.add(0, 0, 0),
            x.add(0, 0, 13), x.add(0, 4096, 12), x.add(0, 0, -1), x.add(0, 0, 33), x.add(0, 0, Integer.MIN_VALUE)},
            -2, -2, -2, -2, -2, -2, -2, -2, -2, -2);
        DUE.is("edges", x.add(199, 4095, 12), 3);
        DUE.row("sender 3", new long[] {x.sender(3, 0), x.sender(3, 1), x.sender(3, 2), x.sender(3, 13)}, 199, 12, 1, 1);
        for (int i = 4; i < 10; i++) DUE.is("add " + i, x.add(6 + i, 0, 1), i - 3 + 3);
        DUE.is("an eleventh", x.add(0, 0, 1), -5);
        DUE.is("no such one goes first", x.add(200, 0, 1), -2);
    }

    private static void disturb() {
        SplitChannel x = Due.of(PAIR);
        DUE.is("disturb", x.disturb(1, 2), 2);
        DUE.row("run", new long[] {x.delivered(0), x.delivered(1), x.noise(0, 0), x.noise(0, 1), x.count(5), x.count(7)},
            2, 4, 1, 2, 1, 3);
        DUE.row("no such", new long[] {x.disturb(-1, 0), x.disturb(200, 0), x.disturb(0, -1), x.disturb(0, 3),
            x.disturb(1, 3)}, -2, -2, -2, -2, -2);
        DUE.is("there is one", x.disturb(1, 0), -5);
        DUE.is("edge", x.disturb(199, 0), 2);
        for (int i = 2; i < 10; i++) DUE.is("disturb", x.disturb(100 + i, 1), 2);
        DUE.is("an eleventh", x.disturb(50, 0), -5);
        DUE.is("no such one goes first", x.disturb(200, 0), -2);
        x = Due.of(HEAD + "sender at 0 bits 0;noise at 0 as none;");
        DUE.row("one of the text", new long[] {x.disturb(0, 1), x.disturb(1, 0), x.delivered(0)}, -5, 1, 2);
    }

    private static void rule() {
        SplitChannel x = Due.of(PAIR);
        DUE.row("rule", new long[] {x.rule(0), x.rule(3), x.done(), x.count(0), x.rule(3), x.rule(0), x.done(), x.count(6)},
            -5, 2, 5, 3, -5, 2, 2, 2);
        DUE.row("no such", new long[] {x.rule(-1), x.rule(4), x.rule(Integer.MIN_VALUE), x.rule(Integer.MAX_VALUE)},
            -2, -2, -2, -2);
    }

    private static void back() {
        SplitChannel x = Due.of(PAIR);
        DUE.row("none to take back", new long[] {x.undo(), x.anew()}, -5, 0);
        x.rule(1);
        x.add(3, 1, 1);
        x.rule(2);
        x.disturb(2, 0);
        DUE.row("count", new long[] {x.count(0), x.count(4), x.count(5), x.count(6)}, 2, 3, 1, 4);
        DUE.row("undo", new long[] {x.undo(), x.count(0), x.count(4), x.count(5), x.noise(0, 0)}, 3, 2, 3, 0, -2);
        DUE.row("undo", new long[] {x.undo(), x.count(0), x.count(4), x.all()}, 2, 1, 3, 3);
        DUE.row("undo", new long[] {x.undo(), x.count(0), x.count(4), x.all(), x.delivered(2)}, 1, 1, 2, 2, -2);
        DUE.row("another act", new long[] {x.add(9, 0, 2), x.sender(2, 1), x.count(6)}, 3, 2, 2);
        DUE.row("anew", new long[] {x.anew(), x.count(0), x.count(4), x.count(5), x.count(6), x.done(), x.undo(), x.anew()},
            2, 0, 2, 0, 0, 2, -5, 0);
        x.add(3, 1, 1);
        DUE.row("a channel has no acts", new long[] {Due.tell(x, PAIR), x.count(6), x.undo()}, 3, 0, -5);
        DUE.row("none", new long[] {Due.tell(x, ""), x.undo(), x.anew(), x.rule(1), x.add(0, 0, 1), x.disturb(0, 0)},
            0, -2, -2, -2, -2, -2);
    }

    private static void full() {
        SplitChannel x = Due.of(PAIR);
        for (int i = 0; i < 20; i++) x.rule(i % 2 + 1);
        DUE.row("20 acts", new long[] {x.count(6), x.rule(3), x.add(0, 0, 1), x.disturb(0, 0), x.rule(4), x.add(0, 0, 0),
            x.disturb(0, 9)}, 20, -5, -5, -5, -2, -2, -2);
        DUE.row("one is taken back", new long[] {x.undo(), x.count(0), x.add(9, 0, 1), x.count(6), x.undo(), x.disturb(9, 0),
            x.rule(0)}, 19, 1, 3, 20, 19, 2, -5);
        DUE.row("all are", new long[] {x.anew(), x.count(6), x.count(0), x.count(5), x.done(), x.rule(1)}, 20, 0, 0, 0, 2, 2);
    }

    /** Taking back is by the acts' order, whatever kinds they are. */
    private static void order() {
        SplitChannel x = Due.of(PAIR + "noise at 7 as one;");
        x.disturb(8, 1);
        x.add(8, 0, 1);
        x.disturb(9, 2);
        x.add(9, 1, 3);
        DUE.row("all", new long[] {x.count(4), x.count(5), x.noise(2, 0), x.sender(3, 1)}, 4, 3, 9, 3);
        DUE.row("one", new long[] {x.undo(), x.count(4), x.count(5)}, 3, 3, 3);
        DUE.row("two", new long[] {x.undo(), x.count(4), x.count(5), x.noise(1, 0)}, 2, 3, 2, 8);
        DUE.row("three", new long[] {x.undo(), x.count(4), x.count(5)}, 1, 2, 2);
        DUE.row("four", new long[] {x.undo(), x.count(4), x.count(5), x.noise(0, 0), x.undo()}, 0, 2, 1, 7, -5);
    }

    /** Whatever is asked, in whatever state: an answer, and the same by an object like it. */
    private static void hostile() {
        int[] odd = {Integer.MIN_VALUE, -200, -2, -1, 0, 1, 2, 3, 8, 12, 13, 31, 32, 33, 199, 200, 500, 4096, Integer.MAX_VALUE};
        String[] texts = {"", PAIR, "channel law 3 slots 200 skips 9 window 20;sender at 199 bits 1;noise at 199 as many;"};
        for (String text : texts) {
            for (int a : odd) {
                for (int b : odd) {
                    DUE.is("alike " + a + " " + b, answers(Due.of(text), a, b), answers(Due.of(text), a, b));
                }
            }
        }
    }

    private static long answers(SplitChannel x, int a, int b) {
        long sum = x.fault(a) + x.count(a) + x.sender(a, b) + x.slot(a, b) + x.sends(a, b) + x.delivered(a) + x.tries(a)
            + x.taken(a) + x.order(a) + x.heard(a) + x.epoch(a, b) + x.behind(a) + x.by(a, b) + x.without(a)
            + x.noise(a, b) + x.alone(a) + x.worst() + x.best(a);
        for (int c : new int[] {Integer.MIN_VALUE, 0, 2, Integer.MAX_VALUE}) {
            sum = sum * 31 + x.mean(c, a, b) + x.mean(a, c, b) + x.leaning(a, b, c, b, 0) + x.leaning(0, 2, a, b, c)
                + x.leaning(0, a, 1, b, 1) + x.chance(a, b, c, 0) + x.chance(0, a, b, c) + x.add(a, b, c) + x.add(c, a, b);
        }
        return sum * 31 + x.disturb(a, b) + x.rule(a) + x.undo() + x.undo() + x.anew() + x.end(a) + x.feed(a, b, a, b, a) + x.end(b) + x.channel();
    }
}
