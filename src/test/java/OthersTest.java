/** Promises 23 to 27: runs by another law, without a noise, without a sender. */
public final class OthersTest {
    private static final Due DUE = new Due();
    private static final String PAIR = "sender at 0 bits 0;sender at 0 bits 1;";

    public static void main(String[] args) {
        by();
        without();
        helpfulNoise();
        firstOfSeveral();
        alone();
        nothingChanges();
        DUE.close();
    }

    private static void by() {
        SplitChannel x = Due.of("channel law 0 slots 10 skips 1 window 2;sender at 0 bits 10;sender at 0 bits 11;");
        DUE.row("law 0", new long[] {x.by(0, 0), x.by(0, 1), x.by(0, 2), x.by(0, 3)}, 4, 2, 2, 0);
        DUE.row("law 1", new long[] {x.by(1, 0), x.by(1, 1), x.by(1, 2), x.by(1, 3)}, 3, 2, 1, 1);
        DUE.row("law 2", new long[] {x.by(2, 0), x.by(2, 1), x.by(2, 2), x.by(2, 3)}, 4, 2, 2, 0);
        DUE.row("law 3", new long[] {x.by(3, 0), x.by(3, 1), x.by(3, 2), x.by(3, 3)}, 5, 2, 4, 0);
        DUE.row("no such", new long[] {x.by(-1, 0), x.by(4, 0), x.by(0, -1), x.by(0, 4), x.by(4, 4),
            x.by(Integer.MIN_VALUE, 0), x.by(0, Integer.MAX_VALUE)}, -2, -2, -2, -2, -2, -2, -2);
        x = Due.of("channel law 0 slots 2 skips 1 window 2;" + PAIR);
        DUE.row("not all", new long[] {x.by(0, 0), x.by(0, 1)}, -1, 1);
    }

    private static void without() {
        SplitChannel x = Due.of("channel law 0 slots 3 skips 0 window 2;" + PAIR + "noise at 9 as many;noise at 1 as none;");
        DUE.row("without", new long[] {x.all(), x.without(0), x.without(1), x.worst()}, 1, 0, 1, 1);
        DUE.row("no such", new long[] {x.without(2), x.without(-1), x.without(Integer.MIN_VALUE),
            x.without(Integer.MAX_VALUE)}, -99, -99, -99, -99);
    }

    /** Two that never part hold the channel; only as none is heard of them a third comes in. */
    private static void helpfulNoise() {
        SplitChannel x = Due.of("channel law 0 slots 20 skips 0 window 1;sender at 0 bits 1;sender at 0 bits 1;"
            + "sender at 1 bits 0;noise at 0 as none;");
        DUE.row("helpful", new long[] {x.all(), x.delivered(2), x.without(0), x.worst()}, 1, 2, -1, -1);
    }

    private static void firstOfSeveral() {
        SplitChannel x = Due.of("channel law 0 slots 2 skips 0 window 1;sender at 0 bits 0;"
            + "noise at 1 as none;noise at 0 as many;");
        DUE.row("each would do", new long[] {x.all(), x.without(0), x.without(1), x.worst()}, 0, 1, 1, 0);
        x = Due.of("channel law 0 slots 2 skips 0 window 1;sender at 0 bits 0;noise at 1 as none;noise at 0 as none;");
        DUE.row("of two alike the first", new long[] {x.without(0), x.without(1), x.worst()}, 1, 1, 0);
    }

    private static void alone() {
        SplitChannel x = Due.of("channel law 0 slots 2 skips 0 window 1;sender at 0 bits 1;sender at 0 bits 1;sender at 1 bits 0;");
        DUE.row("alone", new long[] {x.all(), x.alone(0), x.alone(1), x.alone(2)}, 0, 2, 2, 0);
        DUE.row("no such", new long[] {x.alone(3), x.alone(-1), x.alone(Integer.MIN_VALUE), x.alone(Integer.MAX_VALUE)},
            -2, -2, -2, -2);
        // without 0 the others keep their moments 1 and 2, which part a slot earlier than 0 and 1 do
        x = Due.of("channel law 3 slots 6 skips 0 window 1;sender at 0 bits 0;sender at 0 bits 0;sender at 0 bits 0;");
        DUE.row("numbers stay", new long[] {x.alone(0), x.alone(2)}, 2, 2);
        x = Due.of("channel law 3 slots 5 skips 0 window 1;sender at 0 bits 0;sender at 0 bits 0;sender at 0 bits 0;");
        DUE.row("numbers stay", new long[] {x.alone(0), x.alone(2)}, 2, 1);
    }

    private static void nothingChanges() {
        SplitChannel x = Due.of("channel law 1 slots 9 skips 2 window 2;" + PAIR + "noise at 2 as none;");
        int all = x.all();
        int done = x.done();
        x.by(2, 0);
        x.without(0);
        x.alone(0);
        x.worst();
        DUE.row("as it was", new long[] {x.all(), x.done(), x.count(0), x.count(4), x.count(5), x.count(6)},
            all, done, 1, 2, 1, 0);
        DUE.row("run", new long[] {x.delivered(0), x.delivered(1), x.epochs(), x.epoch(1, 0)}, 1, 3, 2, 3);
    }
}
