/** Promises 8 to 22: runs worked out by hand, slot by slot. */
public final class RunTest {
    private static final Due DUE = new Due();

    public static void main(String[] args) {
        byEpochs();
        byCounters();
        skipsInRow();
        skipByTime();
        noiseSplits();
        noiseSends();
        windows();
        edgeGoesBack();
        shortRun();
        deepRun();
        countersUnderNoise();
        noSuch();
        DUE.close();
    }

    private static void epoch(SplitChannel x, int i, int first, int last, int who) {
        DUE.row("epoch " + i, new long[] {x.epoch(i, 0), x.epoch(i, 1), x.epoch(i, 2)}, first, last, who);
    }

    private static final String THREE = " slots 12 skips 0 window 1;sender at 0 bits 01;sender at 0 bits 10;sender at 2 bits 1;";

    private static void byEpochs() {
        SplitChannel x = Due.of("channel law 0" + THREE);
        DUE.row("sent", Due.slots(x, 0, 6), 2, 1, 1, 1, 0, 0);
        DUE.row("is heard", Due.slots(x, 1, 6), 2, 1, 1, 1, 0, 0);
        DUE.row("through", Due.slots(x, 2, 6), -1, 0, 1, 2, -1, -1);
        DUE.row("depth", Due.slots(x, 3, 6), 2, 1, 0, 0, 0, 0);
        DUE.row("delivered", Due.answers(x, "delivered", 3), 1, 2, 3);
        DUE.row("order", Due.answers(x, "order", 4), 0, 1, 2, -1);
        DUE.row("tries", Due.answers(x, "tries", 3), 2, 2, 1);
        DUE.row("taken", Due.answers(x, "taken", 3), 1, 1, 0);
        DUE.row("heard", Due.answers(x, "heard", 3), 8, 3, 1);
        DUE.row("behind", Due.answers(x, "behind", 3), 0, 1, 1);
        DUE.row("sends", new long[] {x.sends(0, 0), x.sends(0, 1), x.sends(0, 2), x.sends(2, 1), x.sends(2, 2),
            x.sends(3, 2), x.sends(11, 0)}, 1, 1, 0, 1, 0, 1, 0);
        DUE.row("whole", new long[] {x.all(), x.done(), x.collided(), x.skips(), x.deepest(), x.epochs()}, 3, 3, 1, 0, 2, 2);
        epoch(x, 0, 0, 2, 3);
        epoch(x, 1, 3, 3, 4);
        epoch(x, 2, -1, -1, -1);
    }

    private static void byCounters() {
        SplitChannel x = Due.of("channel law 2" + THREE);
        DUE.row("sent", Due.slots(x, 0, 6), 2, 1, 2, 1, 1, 0);
        DUE.row("through", Due.slots(x, 2, 6), -1, 0, -1, 1, 2, -1);
        DUE.row("depth", Due.slots(x, 3, 6), 2, 1, 2, 1, 0, 0);
        DUE.row("tries", Due.answers(x, "tries", 3), 2, 3, 2);
        DUE.row("taken", Due.answers(x, "taken", 3), 1, 2, 1);
        DUE.row("behind", Due.answers(x, "behind", 3), 0, 1, 1);
        DUE.row("whole", new long[] {x.all(), x.done(), x.collided(), x.skips(), x.deepest(), x.epochs()}, 3, 4, 2, 0, 2, 0);
        epoch(x, 0, -1, -1, -1);
    }

    private static SplitChannel alike(int law, int skips) {
        return Due.of("channel law " + law + " slots 20 skips " + skips
            + " window 1;sender at 0 bits 1110;sender at 0 bits 1111;");
    }

    private static void skipsInRow() {
        SplitChannel x = alike(1, 2);
        DUE.row("skips behind slots", Due.slots(x, 4, 7), 0, 1, 1, 0, 0, 0, 0);
        DUE.row("depth", Due.slots(x, 3, 7), 2, 2, 2, 1, 2, 1, 0);
        DUE.row("of 2", new long[] {x.done(), x.skips(), x.tries(0), x.taken(1)}, 6, 2, 3, 4);
        x = alike(1, 3);
        DUE.row("of 3", new long[] {x.done(), x.skips(), x.tries(0), x.taken(1)}, 5, 3, 2, 4);
        x = alike(1, 0);
        DUE.row("of 0", new long[] {x.done(), x.skips(), x.tries(0), x.taken(1)}, 8, 0, 5, 4);
        x = alike(1, 1);
        DUE.row("a new row behind many", Due.slots(x, 4, 7), 0, 1, 0, 0, 1, 0, 0);
        DUE.row("of 1", new long[] {x.done(), x.skips(), x.tries(0)}, 6, 2, 3);
        x = alike(0, 9);
        DUE.row("none by law 0", new long[] {x.done(), x.skips()}, 8, 0);
        x = alike(2, 9);
        DUE.row("none by law 2", new long[] {x.done(), x.skips(), x.epochs()}, 8, 0, 0);
    }

    /** Of the window from 0 to before 16, the moments 8 and 9 are in the second half. */
    private static void skipByTime() {
        StringBuilder text = new StringBuilder("channel law 3 slots 20 skips 3 window 1;");
        for (int i = 0; i < 8; i++) text.append("sender at 5 bits 0;");
        SplitChannel x = Due.of(text + "sender at 0 bits 0;sender at 0 bits 0;");
        DUE.row("depth", Due.slots(x, 3, 6), 2, 2, 3, 4, 3, 2);
        DUE.row("skips", Due.slots(x, 4, 6), 0, 1, 0, 0, 0, 0);
        DUE.row("through", Due.slots(x, 2, 6), -1, -1, -1, -1, 8, 9);
        DUE.row("no bits are taken", new long[] {x.taken(8), x.tries(8), x.tries(9)}, 0, 4, 4);
    }

    /** Many is heard of one, of none: the groups are split all the same. */
    private static void noiseSplits() {
        SplitChannel x = Due.of("channel law 1 slots 8 skips 9 window 1;sender at 0 bits 10;"
            + "noise at 0 as many;noise at 5 as many;");
        DUE.row("sent", Due.slots(x, 0, 8), 1, 0, 1, 0, 0, 0, 0, 0);
        DUE.row("is heard", Due.slots(x, 1, 8), 2, 0, 1, 0, 0, 2, 0, 0);
        DUE.row("depth", Due.slots(x, 3, 8), 2, 2, 1, 0, 0, 2, 2, 2);
        DUE.row("skips", Due.slots(x, 4, 8), 0, 1, 0, 0, 0, 0, 1, 1);
        DUE.row("whole", new long[] {x.done(), x.taken(0), x.epochs(), x.deepest(), x.collided()}, 2, 2, 1, 2, 0);
        epoch(x, 0, 0, 3, 1);
    }

    /** None heard of one, one heard of two: they wait for a later epoch. */
    private static void noiseSends() {
        SplitChannel x = Due.of("channel law 0 slots 6 skips 0 window 1;sender at 0 bits 0;sender at 1 bits 1;"
            + "noise at 0 as none;noise at 1 as one;noise at 4 as none;");
        DUE.row("sent", Due.slots(x, 0, 6), 1, 2, 2, 1, 1, 1);
        DUE.row("is heard", Due.slots(x, 1, 6), 0, 1, 2, 1, 0, 1);
        DUE.row("through", Due.slots(x, 2, 6), -1, -1, -1, 0, -1, 1);
        DUE.row("heard", Due.answers(x, "heard", 3), 2, 3, 1);
        DUE.row("whole", new long[] {x.collided(), x.epochs(), x.tries(1), x.taken(0)}, 2, 4, 4, 1);
        epoch(x, 0, 0, 0, 1);
        epoch(x, 1, 1, 1, 3);
        epoch(x, 2, 2, 4, 3);
        epoch(x, 3, 5, 5, 2);
    }

    private static void windows() {
        SplitChannel x = Due.of("channel law 3 slots 10 skips 3 window 1;sender at 0 bits 0;sender at 1 bits 0;sender at 1 bits 0;");
        DUE.row("sent", Due.slots(x, 0, 9), 1, 2, 2, 2, 1, 1, 0, 0, 0);
        DUE.row("depth", Due.slots(x, 3, 9), 0, 2, 3, 4, 3, 2, 1, 0, 0);
        DUE.row("delivered", Due.answers(x, "delivered", 3), 0, 4, 5);
        DUE.row("whole", new long[] {x.epochs(), x.skips(), x.deepest()}, 2, 0, 4);
        epoch(x, 0, 0, 0, 1);
        epoch(x, 1, 1, 7, 6);
        // the first epoch lasts to slot 8; a window of 1 reaches over slot 1 alone then, one of 2 over 2 as well
        String late = "sender at 0 bits 0;sender at 0 bits 0;sender at 1 bits 0;sender at 2 bits 0;";
        x = Due.of("channel law 3 slots 30 skips 0 window 1;" + late);
        DUE.row("a slot at a time", Due.answers(x, "delivered", 4), 4, 5, 9, 10);
        x = Due.of("channel law 3 slots 30 skips 0 window 2;" + late);
        DUE.row("two slots at a time", new long[] {x.slot(9, 0), x.delivered(2), x.delivered(3), x.epoch(1, 2), x.epochs()}, 2, 10, 11, 12, 2);
    }

    private static void edgeGoesBack() {
        String two = ";sender at 0 bits 0;sender at 2 bits 0;";
        SplitChannel x = Due.of("channel law 3 slots 8 skips 0 window 1" + two + "noise at 0 as none;");
        DUE.row("window 1", Due.answers(x, "delivered", 2), 1, 3);
        x = Due.of("channel law 3 slots 8 skips 0 window 2" + two + "noise at 0 as none;");
        DUE.row("window 2", Due.answers(x, "delivered", 2), 1, 2);
        x = Due.of("channel law 3 slots 8 skips 0 window 1" + two);
        DUE.row("no noise", Due.answers(x, "delivered", 2), 0, 2);
        // two go back as one, none is forgotten: moments 0 and 1
        x = Due.of("channel law 3 slots 8 skips 0 window 1;sender at 0 bits 0;sender at 0 bits 0;noise at 0 as one;");
        DUE.row("both", new long[] {x.delivered(0), x.delivered(1), x.epoch(1, 2)}, 5, 6, 3);
    }

    /** Slots end in the midst of an epoch; who comes later never does. */
    private static void shortRun() {
        SplitChannel x = Due.of("channel law 0 slots 2 skips 0 window 1;sender at 0 bits 0;sender at 0 bits 1;sender at 2 bits 0;");
        DUE.row("delivered", Due.answers(x, "delivered", 3), 1, -1, -1);
        DUE.row("behind", Due.answers(x, "behind", 3), 0, 1, 0);
        DUE.row("whole", new long[] {x.all(), x.done(), x.order(0), x.order(1), x.epochs()}, 1, -1, 0, -1, 1);
        epoch(x, 0, 0, -1, 3);
        x = Due.of("channel law 0 slots 5 skips 0 window 1;");
        DUE.row("without senders", new long[] {x.all(), x.done(), x.epochs(), x.heard(0), x.deepest(), x.order(0),
            x.collided(), x.worst(), x.by(3, 0), x.by(2, 1)}, 0, -1, 0, 5, 0, -1, 0, -1, -1, 0);
    }

    private static void deepRun() {
        SplitChannel x = Due.of("channel law 0 slots 200 skips 0 window 1;sender at 0 bits 0;sender at 0 bits 0;");
        DUE.row("all zeros", new long[] {x.deepest(), x.slot(0, 3), x.slot(199, 3), x.collided(), x.taken(1), x.tries(0),
            x.done()}, 201, 2, 201, 200, 200, 200, -1);
        DUE.row("by others", new long[] {x.by(1, 2), x.by(2, 2), x.by(2, 1), x.by(3, 1), x.by(3, 0)}, 200, 200, 0, 2, 5);
    }

    /** Of slot 0, heard as one, both stay; of slot 1 one is put behind; noise 2 puts it one more behind. */
    private static void countersUnderNoise() {
        SplitChannel x = Due.of("channel law 2 slots 9 skips 0 window 1;sender at 0 bits 0;sender at 0 bits 1;"
            + "noise at 0 as one;noise at 2 as many;noise at 4 as none;");
        DUE.row("sent", Due.slots(x, 0, 9), 2, 2, 1, 1, 0, 1, 0, 0, 0);
        DUE.row("depth", Due.slots(x, 3, 9), 1, 2, 3, 2, 1, 0, 0, 0, 0);
        DUE.row("delivered", Due.answers(x, "delivered", 2), 3, 5);
        DUE.row("taken", Due.answers(x, "taken", 2), 2, 1);
    }

    private static void noSuch() {
        SplitChannel x = Due.of("channel law 0" + THREE);
        int[] bad = {Integer.MIN_VALUE, -1, 12, 200, Integer.MAX_VALUE};
        for (int t : bad) {
            DUE.is("slot " + t, x.slot(t, 0), -2);
            DUE.is("sends " + t, x.sends(t, 0), -2);
            DUE.is("slot what " + t, x.slot(0, t), -2);
            DUE.is("sends of " + t, x.sends(0, t), -2);
            DUE.row("sender " + t, new long[] {x.delivered(t), x.tries(t), x.taken(t), x.behind(t), x.heard(t)},
                -2, -2, -2, -2, -2);
            DUE.is("epoch what " + t, x.epoch(0, t), -2);
            DUE.is("epoch what " + t + " beyond", x.epoch(99, t), -2);
        }
        DUE.row("edges", new long[] {x.slot(0, 5), x.slot(11, 4), x.delivered(3), x.sends(0, 3), x.heard(3),
            x.order(-1), x.order(Integer.MIN_VALUE), x.order(Integer.MAX_VALUE), x.epoch(-1, 0), x.epoch(Integer.MAX_VALUE, 2),
            x.epoch(0, 3)}, -2, 0, -2, -2, -2, -2, -2, -1, -2, -1, -2);
    }
}
