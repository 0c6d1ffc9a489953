/** The bounds that promises 23, 24, 26 and 27 name: another law, a noise less, a sender less. */
public final class OtherEdgeTest {
    private static final Due DUE = new Due();
    private static final int[] BELOW = {Integer.MIN_VALUE, Integer.MIN_VALUE + 1, -200, -99, -2, -1};
    private static final String ZERO = Due.sender(0, "0");
    private static final String ONE = Due.sender(0, "1");

    public static void main(String[] args) {
        DUE.each(OtherEdgeTest.class);
        DUE.close();
    }

    private static SplitChannel[] withoutChannel() {
        SplitChannel taken = Due.of(Due.channel(0, 9, 0, 1) + ZERO + Due.noise(0, "none"));
        Due.tell(taken, "");
        return new SplitChannel[] {new SplitChannel(), taken};
    }

    private static long[] by(SplitChannel x, int law) {
        return new long[] {x.by(law, 0), x.by(law, 1), x.by(law, 2), x.by(law, 3)};
    }

    // ---- promise 23: by

    static void promise23NoSuchLaw() {
        SplitChannel x = Due.of(Due.channel(0, 9, 0, 1) + ZERO);
        for (int law = 0; law <= 3; law++) DUE.row("law " + law, by(x, law), 0, 1, 0, 0);
        for (int law : BELOW) DUE.row("law " + law, by(x, law), -2, -2, -2, -2);
        for (int law : new int[] {4, 5, Integer.MAX_VALUE}) DUE.row("law " + law, by(x, law), -2, -2, -2, -2);
        for (SplitChannel y : withoutChannel()) {
            for (int law = 0; law <= 4; law++) DUE.row("none", by(y, law), -2, -2, -2, -2);
        }
    }

    static void promise23NoSuchWhat() {
        SplitChannel x = Due.of(Due.channel(0, 9, 0, 1) + ZERO);
        for (int law = 0; law <= 3; law++) {
            for (int what : BELOW) DUE.is("what " + what, x.by(law, what), -2);
            for (int what : new int[] {4, 5, Integer.MAX_VALUE}) DUE.is("what " + what, x.by(law, what), -2);
        }
    }

    /** By time two of slot 0 collide in slots 0 to 3; by bits in slot 0 alone. */
    static void promise23NoneOfWhat0() {
        for (int slots = 1; slots <= 8; slots++) {
            for (int law = 0; law <= 3; law++) {
                SplitChannel x = Due.of(Due.channel(law, slots, 0, 1) + ZERO + ONE);
                for (int other = 0; other <= 2; other++) {
                    DUE.row("law " + other + " in " + slots, by(x, other), slots >= 3 ? 2 : -1, Math.min(2, slots - 1), 1, 0);
                }
                DUE.row("law 3 in " + slots, by(x, 3), slots >= 6 ? 5 : -1, Math.max(0, Math.min(2, slots - 4)),
                    Math.min(4, slots), 0);
            }
        }
        for (int law = 0; law <= 3; law++) DUE.row("no senders", by(Due.of(Due.channel(0, 9, 0, 1)), law), -1, 0, 0, 0);
    }

    static void promise23TheSkipsOfTheChannel() {
        for (int k = 0; k <= 9; k++) {
            SplitChannel x = Due.of(Due.channel(0, 20, k, 1) + Due.noise(0, "many"));
            DUE.row("skips", new long[] {x.by(0, 3), x.by(1, 3), x.by(2, 3), x.by(3, 3), x.skips()}, 0, k, 0, k, 0);
        }
    }

    static void promise23ItsOwnLawIsNoOther() {
        for (int law = 0; law <= 3; law++) {
            SplitChannel x = Due.of(Due.channel(law, 20, 3, 1) + Due.sender(0, "10") + Due.sender(0, "11") + Due.noise(2, "none"));
            DUE.row("law " + law, by(x, law), x.done(), x.all(), x.collided(), x.skips());
        }
    }

    static void promise23TheNoisesStay() {
        SplitChannel x = Due.of(Due.channel(0, 2, 0, 1) + Due.sender(1, "0") + Due.noise(1, "none"));
        for (int law = 0; law <= 3; law++) DUE.row("law " + law, by(x, law), -1, 0, 0, 0);
    }

    static void promise23ByActs() {
        SplitChannel x = Due.of(Due.channel(0, 9, 0, 1) + ZERO + ONE);
        x.disturb(1, 0);
        DUE.row("a noise more", by(x, 0), 3, 2, 1, 0);
        x.undo();
        x.add(8, 0, 1);
        DUE.row("a sender more", by(x, 0), 8, 3, 1, 0);
        x.undo();
        x.rule(3);
        DUE.row("another law", by(x, 0), 2, 2, 1, 0);
    }

    // ---- promise 24: without

    static void promise24NoSuchNoise() {
        String text = Due.channel(0, 9, 0, 1);
        for (int n = 0; n <= 10; n++) {
            SplitChannel x = Due.of(text);
            for (int i = 0; i < 12; i++) DUE.is(i + " of " + n, x.without(i), i < n ? 0 : -99);
            for (int i : BELOW) DUE.is("noise " + i, x.without(i), -99);
            DUE.is("greatest", x.without(Integer.MAX_VALUE), -99);
            text += Due.noise(20 + n, "one");
        }
        for (SplitChannel x : withoutChannel()) DUE.row("none", new long[] {x.without(0), x.without(-1)}, -99, -99);
    }

    static void promise24MoreAsManyLess() {
        SplitChannel x = Due.of(Due.channel(0, 3, 0, 1) + ZERO + ONE + Due.noise(1, "none"));
        DUE.row("more", new long[] {x.all(), x.without(0)}, 1, 1);
        x = Due.of(Due.channel(0, 4, 0, 1) + ZERO + ONE + Due.noise(1, "none"));
        DUE.row("as many, a slot later", new long[] {x.all(), x.without(0)}, 2, 0);
        // two that never part hold the channel; only as none is heard of them a third comes in
        x = Due.of(Due.channel(0, 20, 0, 1) + ONE + ONE + Due.sender(1, "0") + Due.noise(0, "none"));
        DUE.row("less", new long[] {x.all(), x.without(0)}, 1, -1);
    }

    static void promise24TenMoreAtMost() {
        String text = Due.channel(0, 11, 0, 1) + Due.noise(0, "many");
        for (int i = 1; i <= 10; i++) text += Due.sender(i, "0");
        // slot 3 is the first that any of them gets: then three are there, of zeros alone
        SplitChannel x = Due.of(text);
        DUE.row("ten", new long[] {x.all(), x.without(0)}, 0, 10);
    }

    static void promise24OnlyThatNoise() {
        SplitChannel x = Due.of(Due.channel(0, 3, 0, 1) + ZERO + Due.noise(0, "none") + Due.noise(1, "none") + Due.noise(2, "none"));
        DUE.row("one of three", new long[] {x.all(), x.without(0), x.without(1), x.without(2)}, 0, 1, 1, 1);
    }

    static void promise24ByActs() {
        SplitChannel x = Due.of(Due.channel(0, 1, 0, 1) + ZERO);
        DUE.row("one", new long[] {x.without(0), x.disturb(0, 0), x.without(0), x.without(1), x.undo(), x.without(0)},
            -99, 0, 1, -99, 0, -99);
    }

    // ---- promise 26: alone

    static void promise26NoSuchSender() {
        String text = Due.channel(0, 20, 0, 1);
        for (int n = 0; n <= 10; n++) {
            SplitChannel x = Due.of(text);
            for (int i = 0; i < 12; i++) DUE.is(i + " of " + n, x.alone(i), i < n ? n - 1 : -2);
            for (int i : BELOW) DUE.is("sender " + i, x.alone(i), -2);
            DUE.is("greatest", x.alone(Integer.MAX_VALUE), -2);
            text += Due.sender(n, "0");
        }
        for (SplitChannel x : withoutChannel()) DUE.row("none", new long[] {x.alone(0), x.alone(-1)}, -2, -2);
    }

    static void promise26ItAside() {
        for (int law = 0; law <= 3; law++) {
            SplitChannel x = Due.of(Due.channel(law, 20, 0, 1) + ZERO);
            DUE.row("the only one, law " + law, new long[] {x.all(), x.alone(0)}, 1, 0);
        }
        SplitChannel x = Due.of(Due.channel(0, 20, 0, 1) + ONE + ONE + Due.sender(19, "0"));
        DUE.row("one of two that never part", new long[] {x.all(), x.alone(0), x.alone(1), x.alone(2)}, 0, 2, 2, 0);
    }

    static void promise26TheNoisesStay() {
        SplitChannel x = Due.of(Due.channel(0, 2, 0, 1) + ZERO + Due.sender(1, "0") + Due.noise(1, "none"));
        DUE.row("of two one is never through", new long[] {x.all(), x.alone(0), x.alone(1)}, 1, 0, 1);
    }

    static void promise26UpToTheLastSlot() {
        for (int slots = 1; slots <= 4; slots++) {
            SplitChannel x = Due.of(Due.channel(0, slots, 0, 1) + ZERO + ONE + Due.sender(3, "0"));
            DUE.row("in " + slots, new long[] {x.all(), x.alone(0), x.alone(1), x.alone(2)},
                Math.min(3, slots - 1), slots < 4 ? 1 : 2, slots < 4 ? 1 : 2, Math.min(2, slots - 1));
        }
    }

    // ---- promise 27: worst

    static void promise27NoneMoreAre() {
        SplitChannel x = Due.of(Due.channel(0, 20, 0, 1) + ZERO);
        DUE.is("no noises", x.worst(), -1);
        x = Due.of(Due.channel(0, 20, 0, 1) + ZERO + Due.noise(0, "none"));
        DUE.row("as many", new long[] {x.without(0), x.worst()}, 0, -1);
        x = Due.of(Due.channel(0, 20, 0, 1) + ONE + ONE + Due.sender(1, "0") + Due.noise(0, "none"));
        DUE.row("less", new long[] {x.without(0), x.worst()}, -1, -1);
        for (SplitChannel y : withoutChannel()) DUE.is("none", y.worst(), -2);
    }

    static void promise27OneMoreIs() {
        SplitChannel x = Due.of(Due.channel(0, 1, 0, 1) + ZERO + Due.noise(0, "none"));
        DUE.row("noise 0", new long[] {x.without(0), x.worst()}, 1, 0);
        String text = Due.channel(0, 1, 0, 1) + ZERO;
        for (int i = 0; i < 9; i++) text += Due.noise(10 + i, "many");
        DUE.is("noise 9", Due.of(text + Due.noise(0, "none")).worst(), 9);
    }

    /** Without the noise at slot 2 sender 0 is through there; without the one at slot 0 each is as it comes. */
    static void promise27MostMore() {
        String two = Due.channel(0, 3, 0, 1) + ZERO + Due.sender(1, "10");
        SplitChannel x = Due.of(two + Due.noise(2, "none") + Due.noise(0, "none"));
        DUE.row("the second", new long[] {x.all(), x.without(0), x.without(1), x.worst()}, 0, 1, 2, 1);
        x = Due.of(two + Due.noise(0, "none") + Due.noise(2, "none"));
        DUE.row("the first", new long[] {x.all(), x.without(0), x.without(1), x.worst()}, 0, 2, 1, 0);
    }

    static void promise27TheFirstOfSeveral() {
        String three = Due.channel(0, 3, 0, 1) + ZERO + Due.noise(2, "none") + Due.noise(1, "none") + Due.noise(0, "none");
        DUE.is("of three alike", Due.of(three).worst(), 0);
        SplitChannel x = Due.of(Due.channel(0, 2, 0, 1) + ZERO + Due.noise(9, "one") + Due.noise(1, "none") + Due.noise(0, "none"));
        DUE.row("of two alike", new long[] {x.without(0), x.without(1), x.without(2), x.worst()}, 0, 1, 1, 1);
    }
}
