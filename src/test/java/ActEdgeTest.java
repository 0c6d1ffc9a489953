/** The bounds that promises 32 to 36 name: acts, how many there may be, and taking them back. */
public final class ActEdgeTest {
    private static final Due DUE = new Due();
    private static final int[] BELOW = {Integer.MIN_VALUE, Integer.MIN_VALUE + 1, -200, -5, -2, -1};
    private static final String HEAD = Due.channel(0, 20, 0, 1);
    private static final String ZERO = Due.sender(0, "0");
    private static final String ONE = Due.sender(0, "1");

    public static void main(String[] args) {
        DUE.each(ActEdgeTest.class);
        DUE.close();
    }

    private static SplitChannel[] withoutChannel() {
        SplitChannel taken = Due.of(HEAD + ZERO);
        taken.rule(1);
        Due.tell(taken, "");
        return new SplitChannel[] {new SplitChannel(), taken};
    }

    /** So many acts that neither senders nor noises come of them. */
    private static SplitChannel acted(int acts) {
        SplitChannel x = Due.of(HEAD + ZERO + ONE);
        for (int i = 0; i < acts; i++) x.rule(1 + i % 2);
        DUE.is("acts", x.count(6), acts);
        return x;
    }

    private static long[] state(SplitChannel x) {
        return new long[] {x.count(0), x.count(4), x.count(5), x.count(6), x.all(), x.done(), x.tries(0), x.heard(0)};
    }

    // ---- promise 32: "comes at SLOT at (0 .. 199), of n BITS (1 .. 12): those of the number bits (0 .. 2 to the n, less 1)"

    static void promise32AtSlot0To199() {
        SplitChannel x = Due.of(HEAD);
        DUE.row("0 and 199", new long[] {x.add(0, 0, 1), x.add(199, 0, 1), x.sender(0, 0), x.sender(1, 0), x.delivered(0),
            x.delivered(1)}, 1, 1, 0, 199, 0, -1);
        for (int at : BELOW) DUE.is("at " + at, x.add(at, 0, 1), -2);
        for (int at : new int[] {200, 201, Integer.MAX_VALUE}) DUE.is("at " + at, x.add(at, 0, 1), -2);
        DUE.row("none came", new long[] {x.count(4), x.count(6)}, 2, 2);
    }

    static void promise32TheLastSlotAndBehindIt() {
        SplitChannel x = Due.of(HEAD);
        DUE.row("19 and 20", new long[] {x.add(20, 0, 1), x.add(19, 0, 1), x.delivered(0), x.delivered(1)}, 0, 1, -1, 19);
    }

    static void promise32Of1To12Bits() {
        SplitChannel x = Due.of(HEAD);
        for (int n : BELOW) DUE.row("n " + n, new long[] {x.add(0, 0, n), x.add(0, 1, n)}, -2, -2);
        for (int n : new int[] {0, 13, 14, 31, 32, 33, 64, 65, Integer.MAX_VALUE}) {
            DUE.row("n " + n, new long[] {x.add(0, 0, n), x.add(0, 1, n)}, -2, -2);
        }
        DUE.row("none came", new long[] {x.count(4), x.count(6)}, 0, 0);
        for (int n = 1; n <= 12; n++) DUE.row("n " + n, new long[] {x.add(0, 0, n), x.sender(0, 1), x.undo()}, 1, n, 0);
    }

    static void promise32BitsFrom0To2ToTheNLess1() {
        for (int n = 1; n <= 12; n++) {
            int greatest = (1 << n) - 1;
            SplitChannel x = Due.of(HEAD);
            DUE.row("least of " + n, new long[] {x.add(0, 0, n), x.add(0, greatest, n)}, 1, n > 0 ? 2 : 0);
            for (int k = 0; k < 12; k++) {
                DUE.row("BIT " + k, new long[] {x.sender(0, 2 + k), x.sender(1, 2 + k)}, k < n ? 0 : -1, k < n ? 1 : -1);
            }
            DUE.row("one more", new long[] {x.add(0, greatest + 1, n), x.add(0, greatest + 2, n), x.add(0, 4096, n),
                x.add(0, Integer.MAX_VALUE, n), x.count(6)}, -2, -2, -2, -2, 2);
            for (int bits : BELOW) DUE.is("bits " + bits, x.add(0, bits, n), -2);
        }
    }

    static void promise32TheHighestFirst() {
        for (int n = 1; n <= 12; n++) {
            for (int one = 0; one < n; one++) {
                SplitChannel x = Due.of(HEAD);
                x.add(0, 1 << n - 1 - one, n);
                for (int k = 0; k < n; k++) DUE.is("BIT " + k + " of " + n, x.sender(0, 2 + k), k == one ? 1 : 0);
            }
        }
    }

    static void promise32ThereAre10() {
        for (int told = 0; told <= 10; told++) {
            String text = HEAD;
            for (int i = 0; i < told; i++) text += Due.sender(i, "0");
            SplitChannel x = Due.of(text);
            for (int i = told; i < 10; i++) DUE.is("add " + i, x.add(i, 0, 1), i + 1);
            DUE.row("an eleventh", new long[] {x.add(10, 0, 1), x.count(4), x.count(6), x.all()}, -5, 10, 10 - told, 10);
            if (told < 10) DUE.row("one is taken back", new long[] {x.undo(), x.add(12, 1, 1), x.done()}, 9 - told, 10, 12);
        }
    }

    static void promise32ThereWere20Acts() {
        SplitChannel x = acted(19);
        DUE.row("the 20th", new long[] {x.add(5, 0, 1), x.count(6)}, 3, 20);
        DUE.row("one more", new long[] {x.add(5, 0, 1), x.count(4), x.count(6)}, -5, 3, 20);
        DUE.row("of 20", new long[] {acted(20).add(5, 0, 1)}, -5);
    }

    static void promise32NoChannel() {
        for (SplitChannel x : withoutChannel()) DUE.row("none", new long[] {x.add(0, 0, 1), x.count(4), x.count(6)}, -2, 0, 0);
    }

    static void promise32HowManyAreDelivered() {
        SplitChannel x = Due.of(HEAD + ZERO);
        DUE.row("less by one more", new long[] {x.all(), x.add(0, 0, 1), x.undo(), x.all()}, 1, 0, 0, 1);
        DUE.row("none in time", new long[] {x.add(20, 0, 1), x.all()}, 1, 1);
    }

    // ---- promise 33: "-2: none such (slot 0 .. 199, as 0 .. 2), no CHANNEL; -5: one at that SLOT, there are 10, there were 20 acts"

    static void promise33Slot0To199() {
        SplitChannel x = Due.of(HEAD);
        DUE.row("0 and 199", new long[] {x.disturb(0, 0), x.disturb(199, 0), x.noise(0, 0), x.noise(1, 0)}, 0, 0, 0, 199);
        for (int t : BELOW) DUE.is("slot " + t, x.disturb(t, 0), -2);
        for (int t : new int[] {200, 201, Integer.MAX_VALUE}) DUE.is("slot " + t, x.disturb(t, 0), -2);
        DUE.row("none came", new long[] {x.count(5), x.count(6)}, 2, 2);
    }

    static void promise33As0To2() {
        SplitChannel x = Due.of(HEAD);
        for (int as = 0; as <= 2; as++) {
            DUE.row("as " + as, new long[] {x.disturb(as, as), x.noise(as, 1), x.slot(as, 1)}, 0, as, as);
        }
        for (int as : BELOW) DUE.is("as " + as, x.disturb(9, as), -2);
        for (int as : new int[] {3, 4, Integer.MAX_VALUE}) DUE.is("as " + as, x.disturb(9, as), -2);
        DUE.row("none came", new long[] {x.count(5), x.count(6)}, 3, 3);
    }

    static void promise33OneAtThatSlot() {
        SplitChannel x = Due.of(HEAD + Due.noise(0, "none") + Due.noise(199, "one"));
        DUE.row("of the text", new long[] {x.disturb(0, 0), x.disturb(0, 1), x.disturb(199, 1), x.count(6)}, -5, -5, -5, 0);
        DUE.row("beside them", new long[] {x.disturb(1, 0), x.disturb(198, 0), x.count(6)}, 0, 0, 2);
        DUE.row("of an act", new long[] {x.disturb(1, 2), x.disturb(198, 0), x.count(6), x.noise(2, 1)}, -5, -5, 2, 0);
        DUE.row("taken back", new long[] {x.undo(), x.disturb(1, 0), x.disturb(198, 2), x.noise(3, 1)}, 1, -5, 0, 2);
    }

    static void promise33ThereAre10() {
        for (int told = 0; told <= 10; told++) {
            String text = HEAD;
            for (int i = 0; i < told; i++) text += Due.noise(100 + i, "one");
            SplitChannel x = Due.of(text);
            for (int i = told; i < 10; i++) DUE.is("disturb " + i, x.disturb(100 + i, 1), 0);
            DUE.row("an eleventh", new long[] {x.disturb(110, 1), x.count(5), x.count(6)}, -5, 10, 10 - told);
            if (told < 10) DUE.row("one is taken back", new long[] {x.undo(), x.disturb(110, 1), x.count(5)}, 9 - told, 0, 10);
        }
    }

    static void promise33ThereWere20Acts() {
        SplitChannel x = acted(19);
        DUE.row("the 20th", new long[] {x.disturb(9, 0), x.count(6)}, 2, 20);
        DUE.row("one more", new long[] {x.disturb(10, 0), x.count(5), x.count(6)}, -5, 1, 20);
        DUE.is("of 20", acted(20).disturb(9, 0), -5);
    }

    static void promise33NoChannel() {
        for (SplitChannel x : withoutChannel()) DUE.row("none", new long[] {x.disturb(0, 0), x.count(5), x.count(6)}, -2, 0, 0);
    }

    static void promise33HowManyAreDelivered() {
        SplitChannel x = Due.of(Due.channel(0, 3, 0, 1) + ZERO + ONE);
        DUE.row("the last slot", new long[] {x.disturb(3, 0), x.undo(), x.disturb(2, 0), x.undo(), x.all()}, 2, 0, 1, 0, 2);
    }

    // ---- promise 34: "-2: there is none such, no CHANNEL; -5: it is so, there were 20 acts"

    static void promise34NoSuchLaw() {
        SplitChannel x = Due.of(HEAD + ZERO);
        for (int law : BELOW) DUE.is("law " + law, x.rule(law), -2);
        for (int law : new int[] {4, 5, Integer.MAX_VALUE}) DUE.is("law " + law, x.rule(law), -2);
        DUE.row("none came", new long[] {x.count(0), x.count(6)}, 0, 0);
        for (SplitChannel y : withoutChannel()) {
            for (int law = -1; law <= 4; law++) DUE.is("none", y.rule(law), -2);
        }
    }

    static void promise34ItIsSo() {
        for (int law = 0; law <= 3; law++) {
            for (int other = 0; other <= 3; other++) {
                SplitChannel x = Due.of(Due.channel(law, 20, 0, 1) + ZERO);
                int due = other == law ? -5 : 1;
                DUE.row(law + " to " + other, new long[] {x.rule(other), x.rule(other), x.count(0), x.count(6)},
                    due, -5, other, other == law ? 0 : 1);
                DUE.row("back by an act", new long[] {x.rule(law), x.count(0)}, due, law);
            }
        }
    }

    static void promise34ThereWere20Acts() {
        SplitChannel x = acted(19);
        DUE.row("the 20th", new long[] {x.rule(3), x.count(6)}, 2, 20);
        DUE.row("one more", new long[] {x.rule(0), x.count(0), x.count(6)}, -5, 3, 20);
        DUE.row("of 20", new long[] {acted(20).rule(0), acted(20).rule(3)}, -5, -5);
    }

    static void promise34HowManyAreDelivered() {
        SplitChannel x = Due.of(Due.channel(0, 5, 0, 1) + ZERO + ONE);
        DUE.row("by time one is in 5 slots", new long[] {x.rule(3), x.all(), x.undo(), x.all()}, 1, 1, 0, 2);
    }

    // ---- promise 35: "The latest act is taken back: how many there are. -2: there is no CHANNEL; -5: there is none."

    static void promise35ThereIsNone() {
        SplitChannel x = Due.of(HEAD + ZERO + Due.noise(9, "one"));
        DUE.row("none", new long[] {x.undo(), x.undo(), x.count(4), x.count(5), x.count(6)}, -5, -5, 1, 1, 0);
        x.add(0, 9, 9999);
        x.disturb(9, 1);
        x.rule(0);
        DUE.row("a refused one is none", new long[] {x.undo(), x.count(4), x.count(5)}, -5, 1, 1);
        x.rule(1);
        DUE.row("one", new long[] {x.undo(), x.undo(), x.count(0)}, 0, -5, 0);
        for (SplitChannel y : withoutChannel()) DUE.row("no channel", new long[] {y.undo(), y.count(6)}, -2, 0);
    }

    static void promise35HowManyThereAre() {
        SplitChannel x = acted(20);
        for (int n = 19; n >= 0; n--) {
            DUE.row("undo to " + n, new long[] {x.undo(), x.count(6), x.count(0)}, n, n, n == 0 ? 0 : n % 2 == 1 ? 1 : 2);
        }
        DUE.is("none is left", x.undo(), -5);
    }

    /** Ten senders, nine noises, a law: each act taken back leaves what was ahead of it. */
    static void promise35TheLatestOfEachKind() {
        SplitChannel x = Due.of(HEAD);
        long[][] were = new long[21][];
        for (int i = 0; i < 20; i++) {
            were[i] = state(x);
            if (i == 10) x.rule(1);
            else if (i % 2 == 0) x.add(i / 2, i % 4 / 2, 1);
            else x.disturb(i / 2, i % 3);
            DUE.is("acts", x.count(6), i + 1);
        }
        DUE.row("of each", new long[] {x.count(0), x.count(4), x.count(5)}, 1, 9, 10);
        for (int i = 19; i >= 0; i--) {
            DUE.is("undo", x.undo(), i);
            DUE.row("as ahead of act " + i, state(x), were[i]);
        }
    }

    /** Each act's run is one from the first slot on: bits are taken from the first one on, none twice. */
    static void promise34BitsFromTheFirstOn() {
        SplitChannel x = Due.of(HEAD + Due.sender(0, "01") + Due.sender(0, "00"));
        DUE.row("as told", Due.answers(x, "taken", 2), 2, 2);
        for (int law = 1; law <= 2; law++) {
            x.rule(law);
            DUE.row("law " + law, Due.answers(x, "taken", 2), 2, 2);
            DUE.row("law " + law, Due.answers(x, "delivered", 2), 3, 2);
        }
        x.rule(3);
        DUE.row("by time none", Due.answers(x, "taken", 2), 0, 0);
        x.undo();
        DUE.row("taken back", Due.answers(x, "taken", 2), 2, 2);
        DUE.row("by another law", new long[] {x.by(0, 0), x.by(1, 0), x.by(0, 0), x.by(1, 0)}, 3, 3, 3, 3);
        DUE.row("as it was", Due.answers(x, "taken", 2), 2, 2);
    }

    // ---- the noises that stand are heard whatever the act

    private static SplitChannel noisy() {
        return Due.of(Due.channel(0, 2, 0, 1) + Due.sender(1, "0") + Due.noise(1, "none"));
    }

    static void promise32TheNoisesStay() {
        SplitChannel x = noisy();
        DUE.row("a sender more", new long[] {x.add(0, 0, 1), x.all(), x.delivered(0), x.delivered(1)}, 1, 1, -1, 0);
    }

    static void promise33TheNoisesStay() {
        SplitChannel x = noisy();
        DUE.row("a noise more", new long[] {x.disturb(0, 1), x.all(), x.slot(0, 1), x.slot(1, 1)}, 0, 0, 1, 0);
    }

    static void promise34TheNoisesStay() {
        for (int law = 1; law <= 3; law++) {
            SplitChannel x = noisy();
            DUE.row("law " + law, new long[] {x.rule(law), x.all(), x.slot(1, 1), x.slot(1, 0)}, 0, 0, 0, 1);
        }
    }

    static void promise35TheNoisesStay() {
        SplitChannel x = noisy();
        x.add(0, 0, 1);
        DUE.row("a sender less", new long[] {x.undo(), x.all(), x.slot(0, 0), x.slot(1, 1)}, 0, 0, 0, 0);
    }

    static void promise36TheNoisesStay() {
        SplitChannel x = noisy();
        x.add(0, 0, 1);
        x.rule(2);
        DUE.row("as told", new long[] {x.anew(), x.all(), x.slot(0, 0), x.slot(1, 1)}, 2, 0, 0, 0);
    }

    // ---- promise 36: "All are: how many there were. -2 likewise."

    static void promise36HowManyThereWere() {
        for (int n = 0; n <= 20; n++) {
            SplitChannel x = acted(n);
            DUE.row(n + " acts", new long[] {x.anew(), x.count(6), x.count(0), x.anew(), x.undo()}, n, 0, 0, 0, -5);
            DUE.row("as told", state(x), state(Due.of(HEAD + ZERO + ONE)));
        }
        for (SplitChannel x : withoutChannel()) DUE.row("no channel", new long[] {x.anew(), x.count(6)}, -2, 0);
    }

    static void promise36OfEachKind() {
        SplitChannel x = Due.of(HEAD + ZERO + ONE + Due.noise(9, "one"));
        for (int i = 2; i < 10; i++) x.add(i, 0, 1);
        for (int i = 1; i < 10; i++) x.disturb(9 + i, 2);
        x.rule(2);
        x.rule(1);
        x.rule(3);
        DUE.row("full", new long[] {x.count(0), x.count(4), x.count(5), x.count(6)}, 3, 10, 10, 20);
        DUE.row("all", new long[] {x.anew(), x.count(7), x.sender(2, 0), x.noise(1, 0), x.noise(0, 0)}, 20, 4, -2, -2, 9);
        DUE.row("as told", state(x), state(Due.of(HEAD + ZERO + ONE + Due.noise(9, "one"))));
        DUE.row("there is room again", new long[] {x.add(5, 0, 1), x.disturb(8, 1), x.rule(2), x.count(6)}, 3, 3, 3, 3);
    }
}
