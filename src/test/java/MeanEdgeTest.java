/** The bounds that section III of the terms and promises 28 to 31 name. */
public final class MeanEdgeTest {
    private static final Due DUE = new Due();
    private static final int[] BELOW = {Integer.MIN_VALUE, Integer.MIN_VALUE + 1, -1000000, -2, -1};

    public static void main(String[] args) {
        DUE.each(MeanEdgeTest.class);
        DUE.close();
    }

    private static long common(long a, long b) {
        return b == 0 ? a : common(b, a % b);
    }

    private static void fraction(String call, long above, long below, long dueAbove, long dueBelow) {
        long g = common(dueAbove, dueBelow);
        DUE.row(call, new long[] {above, below}, dueAbove / g, dueBelow / g);
    }

    // ---- "n 0, 1: one SLOT"

    static void termsN0And1OneSlot() {
        SplitChannel x = new SplitChannel();
        for (int law = 0; law <= 1; law++) {
            for (int n = 0; n <= 1; n++) {
                fraction("mean", x.mean(law, n, 0), x.mean(law, n, 1), 1, 1);
                for (int a = 1; a <= 4; a++) {
                    for (int b = a + 1; b <= 5; b++) fraction("leaning", x.leaning(law, n, a, b, 0), x.leaning(law, n, a, b, 1), 1, 1);
                }
                for (int s = 1; s <= 12; s++) {
                    fraction("chance of " + s, x.chance(law, n, s, 0), x.chance(law, n, s, 1), s == 1 ? 1 : 0, 1);
                }
            }
            DUE.is("n 2 takes more", x.mean(law, 2, 0) > x.mean(law, 2, 1) ? 1 : 0, 1);
            DUE.is("n 2 never takes one", x.chance(law, 2, 1, 0), 0);
        }
    }

    /** Of a channel itself: an epoch of none, of one, is of one slot. */
    static void termsN0And1AsARunHasIt() {
        for (int law = 0; law <= 1; law++) {
            SplitChannel x = Due.of(Due.channel(law, 9, 9, 1) + Due.sender(3, "0"));
            DUE.row("one", new long[] {x.epoch(0, 0), x.epoch(0, 1), x.slot(2, 3)}, 3, 3, 0);
        }
    }

    // ---- promise 28: "n SENDERS (0 .. 8) by LAW 0, 1, what 0: above, 1: below, in lowest terms"

    static void promise28NoneSuch() {
        SplitChannel x = new SplitChannel();
        for (int bad : BELOW) DUE.row("below " + bad, new long[] {x.mean(bad, 2, 0), x.mean(0, bad, 0), x.mean(1, 2, bad)}, -2, -2, -2);
        for (int law : new int[] {2, 3, 4, Integer.MAX_VALUE}) DUE.row("law " + law, new long[] {x.mean(law, 0, 0), x.mean(law, 8, 1)}, -2, -2);
        for (int n : new int[] {9, 10, Integer.MAX_VALUE}) DUE.row("n " + n, new long[] {x.mean(0, n, 0), x.mean(1, n, 1)}, -2, -2);
        for (int what : new int[] {2, 3, Integer.MAX_VALUE}) DUE.row("what " + what, new long[] {x.mean(0, 0, what), x.mean(1, 8, what)}, -2, -2);
    }

    static void promise28From0To8InLowestTerms() {
        for (int law = 0; law <= 1; law++) {
            MeanTest.Fraction[] due = MeanTest.means(law, 8, 1, 2);
            SplitChannel x = new SplitChannel();
            for (int n = 0; n <= 8; n++) {
                long above = x.mean(law, n, 0);
                long below = x.mean(law, n, 1);
                DUE.row("mean of " + n, new long[] {above, below}, due[n].above.longValueExact(), due[n].below.longValueExact());
                DUE.is("lowest", common(above, below), 1);
            }
        }
    }

    /** In any order, with a channel and without: what was reckoned before is nothing to the next. */
    static void promise28OneCallIsNothingToAnother() {
        SplitChannel x = Due.of(Due.channel(3, 9, 2, 1) + Due.sender(0, "0"));
        x.leaning(1, 5, 1, 5, 0);
        x.chance(1, 3, 12, 0);
        DUE.row("mean", new long[] {x.mean(0, 2, 0), x.mean(1, 2, 0), x.mean(0, 2, 1), x.mean(1, 2, 1)}, 5, 9, 1, 2);
        x.best(1);
        DUE.row("mean", new long[] {x.mean(0, 3, 0), x.mean(0, 3, 1), x.mean(1, 3, 0), x.mean(1, 3, 1)}, 23, 3, 7, 1);
        DUE.row("the channel", new long[] {x.all(), x.done(), x.count(0)}, 1, 0, 3);
    }

    // ---- promise 29: "n SENDERS (0 .. 5)", "a chance of a to b (1 .. 4, 2 .. 5, a below b)"

    static void promise29NoneSuch() {
        SplitChannel x = new SplitChannel();
        for (int bad : BELOW) {
            DUE.row("below " + bad, new long[] {x.leaning(bad, 2, 1, 2, 0), x.leaning(0, bad, 1, 2, 0), x.leaning(0, 2, bad, 2, 0),
                x.leaning(0, 2, 1, bad, 0), x.leaning(1, 2, 1, 2, bad)}, -2, -2, -2, -2, -2);
        }
        for (int bad : new int[] {6, 7, 1000, Integer.MAX_VALUE}) {
            DUE.row("above " + bad, new long[] {x.leaning(bad, 2, 1, 2, 0), x.leaning(0, bad, 1, 2, 0), x.leaning(0, 2, bad, 5, 0),
                x.leaning(0, 2, 1, bad, 0), x.leaning(1, 2, 1, 2, bad)}, -2, -2, -2, -2, -2);
        }
        DUE.row("law, what 2", new long[] {x.leaning(2, 2, 1, 2, 0), x.leaning(3, 2, 1, 2, 0), x.leaning(0, 2, 1, 2, 2)}, -2, -2, -2);
    }

    static void promise29EachAAndB() {
        SplitChannel x = new SplitChannel();
        for (int a = -1; a <= 7; a++) {
            for (int b = -1; b <= 7; b++) {
                boolean such = a >= 1 && a <= 4 && b >= 2 && b <= 5 && a < b;
                for (int law = 0; law <= 1; law++) {
                    for (int n = 0; n <= 5; n++) {
                        DUE.row(a + " to " + b, new long[] {x.leaning(law, n, a, b, 0) > 0 ? 1 : x.leaning(law, n, a, b, 0),
                            x.leaning(law, n, a, b, 1) > 0 ? 1 : x.leaning(law, n, a, b, 1)}, such ? 1 : -2, such ? 1 : -2);
                    }
                }
                x = new SplitChannel();
            }
        }
    }

    /** Of two by law 0 it is one, and b times b over a times b less a; by law 1 half the square of (b less a) over that less. */
    static void promise29OfTwo() {
        SplitChannel x = new SplitChannel();
        for (int a = 1; a <= 4; a++) {
            for (int b = a + 1; b <= 5; b++) {
                long both = a * (b - a);
                fraction("law 0", x.leaning(0, 2, a, b, 0), x.leaning(0, 2, a, b, 1), both + b * b, both);
                fraction("law 1", x.leaning(1, 2, a, b, 0), x.leaning(1, 2, a, b, 1), 2 * both + 2 * b * b - (b - a) * (b - a), 2 * both);
            }
        }
    }

    static void promise29OfFive() {
        for (int law = 0; law <= 1; law++) {
            for (int a = 1; a <= 4; a++) {
                for (int b = a + 1; b <= 5; b++) {
                    SplitChannel x = new SplitChannel();
                    MeanTest.Fraction due = MeanTest.means(law, 5, a, b)[5];
                    DUE.row("leaning", new long[] {x.leaning(law, 5, a, b, 0), x.leaning(law, 5, a, b, 1)},
                        due.above.longValueExact(), due.below.longValueExact());
                }
            }
        }
    }

    // ---- promise 30: "n SENDERS (0 .. 3) take just s SLOTS (1 .. 12)"

    static void promise30NoneSuch() {
        SplitChannel x = new SplitChannel();
        for (int bad : BELOW) {
            DUE.row("below " + bad, new long[] {x.chance(bad, 2, 3, 0), x.chance(0, bad, 3, 0), x.chance(0, 2, bad, 0),
                x.chance(1, 2, 3, bad)}, -2, -2, -2, -2);
        }
        for (int bad : new int[] {13, 14, 1000, Integer.MAX_VALUE}) {
            DUE.row("above " + bad, new long[] {x.chance(bad, 2, 3, 0), x.chance(0, bad, 3, 0), x.chance(0, 2, bad, 0),
                x.chance(1, 2, 3, bad)}, -2, -2, -2, -2);
        }
        DUE.row("one too many", new long[] {x.chance(2, 2, 3, 0), x.chance(3, 2, 3, 0), x.chance(0, 4, 3, 0), x.chance(1, 4, 12, 1),
            x.chance(0, 2, 0, 0), x.chance(0, 2, 13, 0), x.chance(0, 2, 3, 2)}, -2, -2, -2, -2, -2, -2, -2);
    }

    /** In parts of 4 to the s: of two half are through in 3; else they are 2, by law 1 also 1, slots from there again. */
    static void promise30OfTwo() {
        for (int law = 0; law <= 1; law++) {
            SplitChannel x = new SplitChannel();
            for (int s = 1; s <= 12; s++) {
                fraction("law " + law + " in " + s, x.chance(law, 2, s, 0), x.chance(law, 2, s, 1), two(law, s), 1L << 2 * s);
            }
        }
    }

    private static long two(int law, int s) {
        if (s < 3) return 0;
        if (s == 3) return 32;
        return law == 0 ? 8 * two(0, s - 2) : 4 * two(1, s - 2) + two(1, s - 1);
    }

    /** In parts of 8 to the s: of three, three in four times one parts from two, which are as two of their own are. */
    static void promise30OfThree() {
        for (int law = 0; law <= 1; law++) {
            SplitChannel x = new SplitChannel();
            for (int s = 1; s <= 12; s++) {
                fraction("law " + law + " in " + s, x.chance(law, 3, s, 0), x.chance(law, 3, s, 1), three(law, s), 1L << 3 * s);
            }
        }
    }

    private static long three(int law, int s) {
        if (s < 5) return 0;
        long parted = 48 * (two(law, s - 2) << s - 2);
        return parted + (law == 0 ? 16 * three(0, s - 2) : 8 * three(1, s - 2) + three(1, s - 1));
    }

    static void promise30NoChanceIs0To1() {
        SplitChannel x = new SplitChannel();
        DUE.row("above", new long[] {x.chance(0, 2, 1, 0), x.chance(0, 2, 2, 0), x.chance(0, 2, 12, 0), x.chance(0, 0, 12, 0),
            x.chance(1, 3, 4, 0)}, 0, 0, 0, 0, 0);
        DUE.row("below", new long[] {x.chance(0, 2, 1, 1), x.chance(0, 2, 2, 1), x.chance(0, 2, 12, 1), x.chance(0, 0, 12, 1),
            x.chance(1, 3, 4, 1)}, 1, 1, 1, 1, 1);
    }

    // ---- promise 31: "By which n (1 .. 8) n divided by MEAN of n is greatest, the least of several"

    static void promise31NoSuchLaw() {
        SplitChannel x = new SplitChannel();
        for (int law : BELOW) DUE.is("law " + law, x.best(law), -2);
        for (int law : new int[] {2, 3, 4, Integer.MAX_VALUE}) DUE.is("law " + law, x.best(law), -2);
    }

    static void promise31TheGreatest() {
        SplitChannel x = new SplitChannel();
        for (int law = 0; law <= 1; law++) {
            int best = x.best(law);
            DUE.is("law " + law, best, 1);
            double most = (double) best * x.mean(law, best, 1) / x.mean(law, best, 0);
            for (int n = 1; n <= 8; n++) {
                double worth = (double) n * x.mean(law, n, 1) / x.mean(law, n, 0);
                DUE.is("no more by " + n, n < best ? worth < most ? 1 : 0 : worth <= most ? 1 : 0, 1);
            }
        }
    }
}
