import java.math.BigInteger;

/** Promises 28 to 31: exact means and chances, against whole-number fractions without bound and against runs. */
public final class MeanTest {
    private static final Due DUE = new Due();

    static final class Fraction {
        final BigInteger above;
        final BigInteger below;

        Fraction(BigInteger a, BigInteger b) {
            BigInteger g = a.gcd(b);
            above = a.divide(g);
            below = b.divide(g);
        }

        static Fraction of(long a, long b) {
            return new Fraction(BigInteger.valueOf(a), BigInteger.valueOf(b));
        }

        Fraction plus(Fraction o) {
            return new Fraction(above.multiply(o.below).add(o.above.multiply(below)), below.multiply(o.below));
        }

        Fraction times(Fraction o) {
            return new Fraction(above.multiply(o.above), below.multiply(o.below));
        }

        Fraction over(Fraction o) {
            return new Fraction(above.multiply(o.below), below.multiply(o.above));
        }

        double worth() {
            return above.doubleValue() / below.doubleValue();
        }
    }

    public static void main(String[] args) {
        told();
        even();
        leaningAll();
        chances();
        chancesByRuns();
        chancesSumUp();
        bests();
        wrongInputs();
        DUE.close();
    }

    /** Worked out by hand from the document's words. */
    private static void told() {
        SplitChannel x = new SplitChannel();
        DUE.row("mean law 0", new long[] {x.mean(0, 0, 0), x.mean(0, 0, 1), x.mean(0, 1, 0), x.mean(0, 1, 1),
            x.mean(0, 2, 0), x.mean(0, 2, 1), x.mean(0, 3, 0), x.mean(0, 3, 1)}, 1, 1, 1, 1, 5, 1, 23, 3);
        DUE.row("mean law 1", new long[] {x.mean(1, 0, 0), x.mean(1, 0, 1), x.mean(1, 1, 0), x.mean(1, 1, 1),
            x.mean(1, 2, 0), x.mean(1, 2, 1), x.mean(1, 3, 0), x.mean(1, 3, 1)}, 1, 1, 1, 1, 9, 2, 7, 1);
        DUE.row("leaning", new long[] {x.leaning(0, 2, 1, 3, 0), x.leaning(0, 2, 1, 3, 1), x.leaning(1, 2, 1, 3, 0),
            x.leaning(1, 2, 1, 3, 1), x.leaning(1, 2, 2, 3, 0), x.leaning(1, 2, 2, 3, 1)}, 11, 2, 9, 2, 21, 4);
        DUE.row("chance", new long[] {x.chance(1, 2, 4, 0), x.chance(1, 2, 4, 1), x.chance(0, 2, 4, 0),
            x.chance(0, 2, 4, 1)}, 1, 8, 0, 1);
    }

    static Fraction[] means(int law, int most, long a, long b) {
        Fraction[] mean = new Fraction[most + 1];
        Fraction zero = Fraction.of(a, b);
        Fraction one = Fraction.of(b - a, b);
        for (int n = 0; n <= most; n++) {
            if (n < 2) {
                mean[n] = Fraction.of(1, 1);
                continue;
            }
            Fraction known = Fraction.of(1, 1);
            Fraction unknown = Fraction.of(0, 1);
            for (int k = 0; k <= n; k++) {
                Fraction p = Fraction.of(choose(n, k), 1);
                for (int i = 0; i < n; i++) p = p.times(i < k ? zero : one);
                for (int part : new int[] {k, n - k}) {
                    if (part == n) unknown = unknown.plus(p);
                    else known = known.plus(p.times(mean[part]));
                }
                if (law == 1 && k == 0) known = known.plus(p.times(Fraction.of(-1, 1)));
            }
            mean[n] = known.over(Fraction.of(1, 1).plus(unknown.times(Fraction.of(-1, 1))));
        }
        return mean;
    }

    private static long choose(int n, int k) {
        return k == 0 || k == n ? 1 : choose(n - 1, k - 1) + choose(n - 1, k);
    }

    private static void even() {
        SplitChannel x = new SplitChannel();
        for (int law = 0; law < 2; law++) {
            Fraction[] due = means(law, 8, 1, 2);
            for (int n = 8; n >= 0; n--) {
                DUE.is("mean above " + law + " " + n, x.mean(law, n, 0), due[n].above.longValueExact());
                DUE.is("mean below " + law + " " + n, x.mean(law, n, 1), due[n].below.longValueExact());
            }
        }
    }

    private static void leaningAll() {
        SplitChannel x = new SplitChannel();
        for (int law = 0; law < 2; law++) {
            for (int b = 2; b <= 5; b++) {
                for (int a = 1; a < b; a++) {
                    Fraction[] due = means(law, 5, a, b);
                    for (int n = 0; n <= 5; n++) {
                        String call = "leaning(" + law + ", " + n + ", " + a + ", " + b + ") ";
                        DUE.is(call + "above", x.leaning(law, n, a, b, 0), due[n].above.longValueExact());
                        DUE.is(call + "below", x.leaning(law, n, a, b, 1), due[n].below.longValueExact());
                    }
                }
            }
        }
        DUE.is("leaning 2 of 4 is as 1 of 2", x.leaning(1, 5, 2, 4, 0), x.mean(1, 5, 0));
    }

    /** Every outcome of the bits is followed by itself, a stack of groups sent one by one. */
    private static Fraction follow(int law, int left, boolean justSplit, int... groups) {
        if (groups.length == 0) return Fraction.of(left == 0 ? 1 : 0, 1);
        if (left == 0) return Fraction.of(0, 1);
        int top = groups[0];
        int[] rest = java.util.Arrays.copyOfRange(groups, 1, groups.length);
        if (top > 1) return split(law, left - 1, groups);
        if (top == 0 && justSplit && law == 1) return split(law, left - 1, rest);
        return follow(law, left - 1, false, rest);
    }

    private static Fraction split(int law, int left, int[] groups) {
        Fraction sum = Fraction.of(0, 1);
        if (groups.length > left + 1) return sum;
        int[] more = new int[groups.length + 1];
        System.arraycopy(groups, 1, more, 2, groups.length - 1);
        for (int k = 0; k <= groups[0]; k++) {
            more[0] = k;
            more[1] = groups[0] - k;
            Fraction p = Fraction.of(choose(groups[0], k), 1L << groups[0]);
            sum = sum.plus(p.times(follow(law, left, true, more.clone())));
        }
        return sum;
    }

    private static void chances() {
        SplitChannel x = new SplitChannel();
        for (int law = 0; law < 2; law++) {
            for (int n = 0; n <= 3; n++) {
                for (int s = 1; s <= 12; s++) {
                    Fraction due = follow(law, s, false, n);
                    String call = "chance(" + law + ", " + n + ", " + s + ") ";
                    DUE.is(call + "above", x.chance(law, n, s, 0), due.above.longValueExact());
                    DUE.is(call + "below", x.chance(law, n, s, 1), due.below.longValueExact());
                }
            }
        }
    }

    /** All bits of three senders are told: how many of the runs' epochs take s slots is the chance. */
    private static void chancesByRuns() {
        SplitChannel x = new SplitChannel();
        for (int law = 0; law < 2; law++) {
            long[] runs = new long[41];
            for (int bits = 0; bits < 4096; bits++) {
                if (bits % 16 == 0) {
                    // an object is promised for 512 calls alone
                    x = new SplitChannel();
                    Due.tell(x, "channel law " + law + " slots 40 skips 9 window 1;");
                }
                for (int i = 0; i < 3; i++) x.add(0, bits >> 4 * i & 15, 4);
                boolean cut = false;
                for (int i = 0; i < 3; i++) cut |= x.taken(i) > 4;
                if (!cut) runs[x.epoch(0, 1) + 1]++;
                for (int i = 0; i < 3; i++) x.undo();
            }
            // up to so many slots no sender needs a fifth bit
            for (int s = 1; s <= 5; s++) {
                DUE.is("runs of law " + law + " in " + s, runs[s] * x.chance(law, 3, s, 1),
                    4096 * x.chance(law, 3, s, 0));
            }
        }
    }

    private static void chancesSumUp() {
        SplitChannel x = new SplitChannel();
        for (int law = 0; law < 2; law++) {
            double sum = 0;
            for (int s = 1; s <= 12; s++) sum += (double) x.chance(law, 2, s, 0) / x.chance(law, 2, s, 1);
            DUE.is("chances of two senders nearly sum to 1", sum > 0.9 && sum < 1 ? 1 : 0, 1);
        }
    }

    private static void bests() {
        SplitChannel x = new SplitChannel();
        for (int law = 0; law < 2; law++) {
            Fraction[] mean = means(law, 8, 1, 2);
            int best = 1;
            for (int n = 2; n <= 8; n++) {
                if (n / mean[n].worth() > best / mean[best].worth() + 1e-9) best = n;
            }
            DUE.is("best " + law, x.best(law), best);
        }
        DUE.is("best(2)", x.best(2), -2);
        DUE.is("best(-1)", x.best(-1), -2);
    }

    private static void wrongInputs() {
        SplitChannel x = new SplitChannel();
        int[] ends = {Integer.MIN_VALUE, -1, 2, 3, Integer.MAX_VALUE};
        for (int bad : ends) {
            DUE.is("mean law " + bad, x.mean(bad, 2, 0), -2);
            DUE.is("mean what " + bad, x.mean(0, 2, bad), -2);
            DUE.is("leaning law " + bad, x.leaning(bad, 2, 1, 2, 0), -2);
            DUE.is("leaning what " + bad, x.leaning(0, 2, 1, 2, bad), -2);
            DUE.is("chance law " + bad, x.chance(bad, 2, 3, 0), -2);
            DUE.is("chance what " + bad, x.chance(0, 2, 3, bad), -2);
        }
        DUE.row("n out of its bounds", new long[] {x.mean(0, -1, 0), x.mean(1, 9, 1), x.leaning(0, -1, 1, 2, 0),
            x.leaning(1, 6, 1, 2, 1), x.chance(0, -1, 1, 0), x.chance(1, 4, 3, 1)}, -2, -2, -2, -2, -2, -2);
        DUE.row("a, b out of theirs", new long[] {x.leaning(0, 2, 0, 2, 0), x.leaning(0, 2, 5, 6, 0),
            x.leaning(0, 2, 1, 1, 0), x.leaning(0, 2, 1, 6, 0), x.leaning(0, 2, 3, 3, 0), x.leaning(0, 2, 4, 3, 0),
            x.leaning(0, 2, -1, 5, 0), x.leaning(0, 2, 4, 5, 0) > 0 ? 1 : 0}, -2, -2, -2, -2, -2, -2, -2, 1);
        DUE.row("s out of its", new long[] {x.chance(0, 2, 0, 0), x.chance(0, 2, 13, 0), x.chance(0, 2, -1, 1)}, -2, -2, -2);
    }
}
