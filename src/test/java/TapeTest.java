/** Promises 1 to 3: a new object, feed, end; and how many bytes the tape has. */
public final class TapeTest {
    private static final Due DUE = new Due();

    public static void main(String[] args) {
        newObject();
        fullTape();
        highestFirst();
        cutTape();
        emptyBehindChannel();
        DUE.close();
    }

    private static void newObject() {
        SplitChannel x = new SplitChannel();
        for (int i = 0; i <= 8; i++) DUE.is("count(" + i + ") of a new one", x.count(i), 0);
        DUE.row("no channel", new long[] {x.sender(0, 0), x.slot(0, 0), x.sends(0, 0), x.delivered(0), x.tries(0),
            x.taken(0), x.order(0), x.all(), x.done(), x.heard(0), x.collided(), x.skips(), x.deepest(), x.epochs(),
            x.epoch(0, 0), x.behind(0), x.by(0, 0), x.noise(0, 0), x.alone(0), x.worst(), x.add(0, 0, 1),
            x.disturb(0, 0), x.rule(1), x.undo(), x.anew()},
            -2, -2, -2, -2, -2, -2, -2, -2, -2, -2, -2, -2, -2, -2, -2, -2, -2, -2, -2, -2, -2, -2, -2, -2, -2);
        DUE.is("without", x.without(0), -99);
        DUE.row("fault", new long[] {x.fault(0), x.fault(1), x.fault(2), x.fault(-1)}, 0, -1, -1, -1);
        DUE.is("two objects share nothing", x.feed(0, 0, 0, 0, 0) + new SplitChannel().count(8), 20);
    }

    private static void fullTape() {
        SplitChannel x = new SplitChannel();
        for (int i = 1; i <= 25; i++) DUE.is("feed " + i, x.feed(0, -1, 1, 2, 3), 20 * i);
        DUE.is("feed beyond 500", x.feed(0, 0, 0, 0, 0), -1);
        DUE.is("none came", x.count(8), 500);
        DUE.is("end beyond", x.end(501), -1);
        DUE.is("end below", x.end(-1), -1);
        DUE.is("least", x.end(Integer.MIN_VALUE), -1);
        DUE.is("nothing happened", x.count(8), 500);
        DUE.is("end of all", x.end(500), 500);
        DUE.is("end(481)", x.end(481), 481);
        DUE.is("one byte too many", x.feed(0, 0, 0, 0, 0), -1);
        DUE.is("end(480)", x.end(480), 480);
        DUE.is("just full", x.feed(0, 0, 0, 0, 0), 500);
        DUE.is("end(0)", x.end(0), 0);
        DUE.is("empty", x.count(8), 0);
        DUE.is("end(1) of none", x.end(1), -1);
    }

    /** "channel law 0 slots 5 skips 0 window 1;" and a blank, in two feeds. */
    private static void highestFirst() {
        SplitChannel x = new SplitChannel();
        DUE.is("feed", x.feed(0x6368616e, 0x6e656c20, 0x6c617720, 0x3020736c, 0x6f747320), 20);
        DUE.is("feed", x.feed(0x3520736b, 0x69707320, 0x30207769, 0x6e646f77, 0x20313b20), 40);
        DUE.is("channel", x.channel(), 1);
        DUE.is("slots", x.count(1), 5);
    }

    private static void cutTape() {
        SplitChannel x = new SplitChannel();
        x.feed(0x6368616e, 0x6e656c20, 0x6c617720, 0x3020736c, 0x6f747320);
        x.feed(-1, -1, -1, -1, -1);
        DUE.is("end", x.end(20), 20);
        DUE.is("behind what is left", x.feed(0x3520736b, 0x69707320, 0x30207769, 0x6e646f77, 0x20313b00), 40);
        DUE.is("end", x.end(39), 39);
        DUE.is("channel", x.channel(), 1);
    }

    private static void emptyBehindChannel() {
        SplitChannel x = Due.of("channel law 0 slots 5 skips 0 window 1;");
        DUE.is("tape", x.count(8), 0);
        Due.feed(x, "channel law 9");
        DUE.is("tape", x.count(8), 13);
        DUE.is("fault", x.channel(), -4);
        DUE.is("tape is empty then too", x.count(8), 0);
    }
}
