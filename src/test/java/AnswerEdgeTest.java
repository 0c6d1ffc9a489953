/** The bounds that promises 8 to 22 name: slots, senders, epochs and the run as a whole. */
public final class AnswerEdgeTest {
    private static final Due DUE = new Due();
    private static final int[] BELOW = {Integer.MIN_VALUE, Integer.MIN_VALUE + 1, -200, -2, -1};
    private static final String ZERO = Due.sender(0, "0");
    private static final String ONE = Due.sender(0, "1");

    public static void main(String[] args) {
        DUE.each(AnswerEdgeTest.class);
        DUE.close();
    }

    private static String law0(int slots) {
        return Due.channel(0, slots, 0, 1);
    }

    /** Slot 0 is many, of 1 and 2 each is one. */
    private static SplitChannel pair(int slots) {
        return Due.of(law0(slots) + ZERO + ONE);
    }

    private static SplitChannel[] withoutChannel() {
        SplitChannel taken = pair(9);
        Due.tell(taken, "");
        SplitChannel faulty = new SplitChannel();
        Due.tell(faulty, "x");
        return new SplitChannel[] {new SplitChannel(), taken, faulty};
    }

    private static String noises(int from, int to, String how) {
        String text = "";
        for (int t = from; t <= to; t++) text += Due.noise(t, how);
        return text;
    }

    // ---- promise 8: slot

    static void promise8NoSuchSlot() {
        for (int slots : new int[] {1, 2, 100, 199, 200}) {
            SplitChannel x = Due.of(law0(slots));
            DUE.row(slots + " slots", new long[] {x.slot(0, 0), x.slot(slots - 1, 0), x.slot(slots, 0), x.slot(slots + 1, 0),
                x.slot(200, 0), x.slot(Integer.MAX_VALUE, 0)}, 0, 0, -2, -2, -2, -2);
            for (int t : BELOW) DUE.is("slot " + t, x.slot(t, 0), -2);
        }
        for (SplitChannel x : withoutChannel()) DUE.row("none", new long[] {x.slot(0, 0), x.slot(0, 4), x.slot(0, 5)}, -2, -2, -2);
    }

    static void promise8NoSuchWhat() {
        SplitChannel x = pair(3);
        DUE.row("what 0 to 4", new long[] {x.slot(0, 0), x.slot(0, 1), x.slot(0, 2), x.slot(0, 3), x.slot(0, 4)}, 2, 2, -1, 2, 0);
        for (int what : BELOW) DUE.is("what " + what, x.slot(0, what), -2);
        for (int what : new int[] {5, 6, Integer.MAX_VALUE}) DUE.row("what " + what, new long[] {x.slot(0, what), x.slot(2, what)}, -2, -2);
    }

    static void promise8HowManySent() {
        for (int law = 0; law <= 3; law++) {
            for (int n = 0; n <= 10; n++) {
                SplitChannel x = Due.of(Due.channel(law, 2, 0, 1) + ZERO.repeat(n));
                DUE.is(n + " by law " + law, x.slot(0, 0), n);
            }
        }
    }

    static void promise8WhatIsHeard() {
        SplitChannel x = Due.of(law0(6) + ZERO + ONE + Due.noise(3, "many"));
        DUE.row("is heard", Due.slots(x, 1, 6), 2, 1, 1, 2, 0, 0);
    }

    static void promise8TheSenderDeliveredOrNone() {
        for (int i = 0; i <= 9; i++) {
            SplitChannel x = Due.of(law0(3) + Due.sender(9, "0").repeat(i) + Due.sender(1, "0"));
            DUE.row("sender " + i, Due.slots(x, 2, 3), -1, i, -1);
        }
        SplitChannel x = Due.of(law0(2) + ZERO + Due.noise(0, "none") + Due.noise(1, "many"));
        DUE.row("sent alone and heard otherwise", new long[] {x.slot(0, 0), x.slot(0, 2), x.slot(1, 0), x.slot(1, 2)}, 1, -1, 1, -1);
    }

    static void promise8DepthBehindItWithAllSkips() {
        SplitChannel x = Due.of(Due.channel(1, 7, 2, 1) + Due.sender(0, "1110") + Due.sender(0, "1111"));
        DUE.row("depth", Due.slots(x, 3, 7), 2, 2, 2, 1, 2, 1, 0);
        DUE.row("skips behind it", Due.slots(x, 4, 7), 0, 1, 1, 0, 0, 0, 0);
    }

    /** Two of ones alone are split, skipped once, passed and sent again, by threes: behind slot 199 too. */
    static void promise8TheLastOf200Slots() {
        SplitChannel x = Due.of(Due.channel(1, 200, 1, 1) + ONE + ONE);
        DUE.row("198", new long[] {x.slot(198, 0), x.slot(198, 1), x.slot(198, 2), x.slot(198, 3), x.slot(198, 4)}, 2, 2, -1, 2, 0);
        DUE.row("199", new long[] {x.slot(199, 0), x.slot(199, 1), x.slot(199, 2), x.slot(199, 3), x.slot(199, 4)}, 0, 0, -1, 2, 1);
        DUE.row("skips", new long[] {x.skips(), x.deepest(), x.collided()}, 67, 2, 67);
    }

    // ---- promise 9: sends

    static void promise9EachSenderAndSlot() {
        for (int i = 0; i <= 9; i++) {
            SplitChannel x = Due.of(law0(4) + Due.sender(9, "0").repeat(i) + Due.sender(2, "0") + Due.sender(9, "0").repeat(9 - i));
            for (int t = 0; t <= 3; t++) {
                for (int k = 0; k <= 9; k++) DUE.is("slot " + t + " sender " + k, x.sends(t, k), t == 2 && k == i ? 1 : 0);
            }
        }
    }

    static void promise9NoneSuch() {
        for (int n = 1; n <= 10; n++) {
            SplitChannel x = Due.of(law0(20) + ZERO.repeat(n));
            DUE.row("bounds", new long[] {x.sends(0, n - 1), x.sends(19, n - 1), x.sends(20, n - 1), x.sends(0, n), x.sends(20, n)},
                1, n == 1 ? 0 : 1, -2, -2, -2);
            for (int k : BELOW) DUE.row("below", new long[] {x.sends(k, 0), x.sends(0, k), x.sends(k, k)}, -2, -2, -2);
            DUE.row("above", new long[] {x.sends(Integer.MAX_VALUE, 0), x.sends(0, Integer.MAX_VALUE), x.sends(0, 32),
                x.sends(200, 0)}, -2, -2, -2, -2);
        }
        DUE.is("no senders", Due.of(law0(2)).sends(0, 0), -2);
        for (SplitChannel x : withoutChannel()) DUE.is("none", x.sends(0, 0), -2);
    }

    // ---- promises 10 to 12, 22: "-2: there is no such one"

    private static long[] ofSender(SplitChannel x, int i) {
        return new long[] {x.delivered(i), x.tries(i), x.taken(i), x.behind(i)};
    }

    private static void noSuchSender(int question) {
        for (int n = 0; n <= 10; n++) {
            SplitChannel x = Due.of(law0(2) + Due.sender(5, "0").repeat(n));
            for (int i = 0; i < 12; i++) DUE.is(i + " of " + n, ofSender(x, i)[question], i >= n ? -2 : question == 0 ? -1 : 0);
            for (int i : BELOW) DUE.is("sender " + i, ofSender(x, i)[question], -2);
            DUE.is("greatest", ofSender(x, Integer.MAX_VALUE)[question], -2);
        }
        for (SplitChannel x : withoutChannel()) DUE.is("without a channel", ofSender(x, 0)[question], -2);
    }

    static void promise10NoSuchSender() {
        noSuchSender(0);
    }

    static void promise11NoSuchSender() {
        noSuchSender(1);
    }

    static void promise12NoSuchSender() {
        noSuchSender(2);
    }

    static void promise22NoSuchSender() {
        noSuchSender(3);
    }

    static void promise10TheFirstAndTheLastSlot() {
        for (int slots : new int[] {1, 2, 200}) {
            SplitChannel x = Due.of(law0(slots) + Due.sender(slots - 1, "0") + Due.sender(slots % 200, "0"));
            DUE.row("of " + slots, new long[] {x.delivered(0), x.delivered(1)}, slots - 1, slots == 200 ? 0 : -1);
        }
    }

    static void promise10NotDelivered() {
        DUE.row("in 3 slots", Due.answers(pair(3), "delivered", 2), 1, 2);
        DUE.row("in 2 slots", Due.answers(pair(2), "delivered", 2), 1, -1);
        DUE.row("in 1 slot", Due.answers(pair(1), "delivered", 2), -1, -1);
    }

    static void promise11HowManySlotsItSentIn() {
        SplitChannel x = Due.of(law0(200) + ZERO + ZERO + Due.sender(199, "0"));
        DUE.row("in each, in none", Due.answers(x, "tries", 3), 200, 200, 0);
        x = Due.of(law0(3) + Due.sender(2, "0") + Due.sender(3, "0"));
        DUE.row("in the last", Due.answers(x, "tries", 2), 1, 0);
        x = Due.of(law0(3) + ZERO + Due.noise(0, "none") + Due.noise(1, "none"));
        DUE.row("heard or not", Due.answers(x, "tries", 1), 3);
    }

    static void promise12HowManyBitsItTook() {
        for (int law = 0; law <= 2; law++) {
            SplitChannel x = Due.of(Due.channel(law, 200, 0, 1) + ZERO + ZERO + Due.sender(199, "0"));
            DUE.row("a bit a slot; the third waits, but by law 2", Due.answers(x, "taken", 3), 200, 200, law == 2 ? 1 : 0);
        }
        SplitChannel x = Due.of(Due.channel(3, 200, 9, 1) + ZERO + ZERO + noises(0, 9, "many"));
        DUE.row("by time none is taken", Due.answers(x, "taken", 2), 0, 0);
        x = Due.of(law0(1) + ZERO + Due.noise(0, "many"));
        DUE.row("in the last slot too", Due.answers(x, "taken", 1), 1);
        x = Due.of(law0(1) + ZERO);
        DUE.row("alone none", Due.answers(x, "taken", 1), 0);
    }

    // ---- promises 13 to 15: order, all, done

    static void promise13NotSoManyAre() {
        for (int n = 0; n <= 10; n++) {
            String text = law0(20);
            for (int i = 0; i < n; i++) text += Due.sender(n - 1 - i, "0");
            SplitChannel x = Due.of(text);
            for (int k = 0; k < 12; k++) DUE.is(k + " of " + n, x.order(k), k < n ? n - 1 - k : -1);
            DUE.is("greatest", x.order(Integer.MAX_VALUE), -1);
        }
        SplitChannel x = pair(2);
        DUE.row("one of two", new long[] {x.order(0), x.order(1), x.order(2)}, 0, -1, -1);
    }

    static void promise13BelowAndWithoutAChannel() {
        for (int k : BELOW) DUE.row("order " + k, new long[] {pair(9).order(k), Due.of(law0(1)).order(k)}, -2, -2);
        for (SplitChannel x : withoutChannel()) DUE.row("none", new long[] {x.order(0), x.order(-1), x.order(9)}, -2, -2, -2);
    }

    static void promise14HowManyAre() {
        for (int n = 0; n <= 10; n++) {
            String text = law0(10);
            for (int i = 0; i < n; i++) text += Due.sender(i, "0");
            DUE.is("all", Due.of(text).all(), n);
            DUE.is("in the last slot", Due.of(text.replace("slots 10", "slots " + Math.max(1, n))).all(), n);
            if (n > 1) DUE.is("in one slot less", Due.of(text.replace("slots 10", "slots " + (n - 1))).all(), n - 1);
        }
        for (SplitChannel x : withoutChannel()) DUE.is("none", x.all(), -2);
    }

    static void promise15NotAllAreOrThereAreNone() {
        DUE.row("two", new long[] {pair(4).done(), pair(3).done(), pair(2).done(), pair(1).done()}, 2, 2, -1, -1);
        DUE.is("there are none", Due.of(law0(9)).done(), -1);
        DUE.is("at slot 0", Due.of(law0(9) + ZERO).done(), 0);
        DUE.is("at the last of 200", Due.of(law0(200) + Due.sender(199, "0")).done(), 199);
        DUE.is("one comes behind the last", Due.of(law0(199) + ZERO + Due.sender(199, "0")).done(), -1);
        for (SplitChannel x : withoutChannel()) DUE.is("none", x.done(), -2);
    }

    static void promise15TheSlotOfTheLastNotOfTheGreatest() {
        SplitChannel x = Due.of(law0(9) + Due.sender(5, "0") + Due.sender(3, "0"));
        DUE.row("sender 0 is the last", new long[] {x.done(), x.order(1)}, 5, 0);
    }

    // ---- promises 16 to 19: heard, collided, skips, deepest

    static void promise16HowManyWereHeardSo() {
        SplitChannel x = Due.of(law0(5) + ZERO + ONE + Due.noise(4, "many"));
        DUE.row("heard", Due.answers(x, "heard", 3), 1, 2, 2);
        x = Due.of(law0(200));
        DUE.row("none alone", Due.answers(x, "heard", 3), 200, 0, 0);
        x = Due.of(law0(200) + ZERO + ZERO);
        DUE.row("many alone", Due.answers(x, "heard", 3), 0, 0, 200);
        x = Due.of(law0(1) + ZERO);
        DUE.row("one alone", Due.answers(x, "heard", 3), 0, 1, 0);
    }

    static void promise16NoneSuch() {
        SplitChannel x = pair(9);
        for (int what : BELOW) DUE.is("heard " + what, x.heard(what), -2);
        for (int what : new int[] {3, 4, Integer.MAX_VALUE}) DUE.is("heard " + what, x.heard(what), -2);
        for (SplitChannel y : withoutChannel()) {
            DUE.row("none", new long[] {y.heard(-1), y.heard(0), y.heard(1), y.heard(2), y.heard(3)}, -2, -2, -2, -2, -2);
        }
    }

    static void promise17MoreThanOneSent() {
        for (int n = 0; n <= 10; n++) DUE.is(n + " send", Due.of(law0(1) + ZERO.repeat(n)).collided(), n > 1 ? 1 : 0);
        DUE.is("in each slot", Due.of(law0(200) + ZERO + ZERO).collided(), 200);
        for (SplitChannel x : withoutChannel()) DUE.is("none", x.collided(), -2);
    }

    static void promise17WhateverIsHeard() {
        for (String how : new String[] {"none", "one", "many"}) {
            for (int n = 0; n <= 3; n++) {
                DUE.is(n + " as " + how, Due.of(law0(1) + ZERO.repeat(n) + Due.noise(0, how)).collided(), n > 1 ? 1 : 0);
            }
        }
    }

    static void promise18HowManySkipsInAll() {
        for (int k = 0; k <= 9; k++) {
            SplitChannel x = Due.of(Due.channel(1, 20, k, 1) + Due.noise(0, "many"));
            DUE.is("a row of " + k, x.skips(), k);
            x = Due.of(Due.channel(1, 40, k, 1) + Due.noise(0, "many") + Due.noise(k + 3, "many"));
            DUE.is("two rows of " + k, x.skips(), 2 * k);
            // the last slot may be in the midst of a row
            x = Due.of(Due.channel(1, k + 1, k, 1) + Due.noise(0, "many"));
            DUE.is("up to the last slot", x.skips(), k);
        }
        for (SplitChannel x : withoutChannel()) DUE.is("none", x.skips(), -2);
    }

    static void promise19TheGreatestDepthBehindASlot() {
        DUE.is("one group is gone behind its slot", Due.of(law0(9) + ZERO).deepest(), 0);
        DUE.is("none", Due.of(law0(9)).deepest(), 0);
        for (int n = 1; n <= 10; n++) {
            DUE.is(n + " splits", Due.of(law0(50) + noises(0, n - 1, "many")).deepest(), n + 1);
        }
        DUE.is("in the last slot", Due.of(law0(3) + Due.noise(2, "many")).deepest(), 2);
        DUE.is("200 splits", Due.of(law0(200) + ZERO + ZERO).deepest(), 201);
        for (SplitChannel x : withoutChannel()) DUE.is("none", x.deepest(), -2);
    }

    /** What a longer channel ahead of it had is none of its own. */
    private static SplitChannel shorter(int slots) {
        SplitChannel x = Due.of(Due.channel(1, 200, 1, 1) + ONE + ONE + Due.sender(199, "0"));
        Due.tell(x, law0(slots) + ZERO);
        return x;
    }

    static void promise16OfItsOwnSlotsAlone() {
        for (int slots = 1; slots <= 4; slots++) DUE.row("heard", Due.answers(shorter(slots), "heard", 3), slots - 1, 1, 0);
    }

    static void promise17OfItsOwnSlotsAlone() {
        for (int slots = 1; slots <= 4; slots++) DUE.is("collided", shorter(slots).collided(), 0);
    }

    static void promise18OfItsOwnSlotsAlone() {
        for (int slots = 1; slots <= 4; slots++) DUE.is("skips", shorter(slots).skips(), 0);
    }

    static void promise19OfItsOwnSlotsAlone() {
        for (int slots = 1; slots <= 4; slots++) DUE.is("deepest", shorter(slots).deepest(), 0);
    }

    static void promise20OfItsOwnSlotsAlone() {
        for (int slots = 1; slots <= 4; slots++) {
            SplitChannel x = shorter(slots);
            DUE.row("epochs", new long[] {x.epochs(), x.epoch(0, 1), x.epoch(0, 2), x.epoch(1, 0)}, 1, 0, 1, -1);
        }
    }

    // ---- promises 20 and 21: epochs, epoch

    static void promise20SomeSenderInThem() {
        DUE.is("without senders", Due.of(law0(200)).epochs(), 0);
        DUE.is("one comes in the last slot", Due.of(law0(200) + Due.sender(199, "0")).epochs(), 1);
        DUE.is("one comes behind it", Due.of(law0(199) + Due.sender(199, "0")).epochs(), 0);
        for (int n = 1; n <= 10; n++) {
            String text = law0(30);
            for (int i = 0; i < n; i++) text += Due.sender(2 * i, "0");
            DUE.is(n + " apart", Due.of(text).epochs(), n);
        }
        // each of ten noises holds the first one for an epoch more, then nine come through one by one
        String text = law0(40) + ZERO + noises(0, 9, "none");
        for (int i = 1; i < 10; i++) text += Due.sender(20 + i, "0");
        DUE.is("twenty", Due.of(text).epochs(), 20);
        DUE.is("a split epoch without any", Due.of(law0(9) + Due.noise(0, "many") + Due.sender(1, "0")).epochs(), 1);
    }

    static void promise20ByLaw2None() {
        SplitChannel x = Due.of(Due.channel(2, 9, 0, 1) + ZERO + ONE);
        DUE.row("law 2", new long[] {x.all(), x.epochs(), x.epoch(0, 0), x.epoch(0, 1), x.epoch(0, 2)}, 2, 0, -1, -1, -1);
        for (SplitChannel y : withoutChannel()) DUE.is("none", y.epochs(), -2);
    }

    static void promise21ItGoesOnAtTheEnd() {
        DUE.row("ends ahead of the last slot", new long[] {pair(4).epoch(0, 0), pair(4).epoch(0, 1), pair(4).epoch(0, 2)}, 0, 2, 3);
        DUE.row("ends in the last slot", new long[] {pair(3).epoch(0, 0), pair(3).epoch(0, 1), pair(3).epoch(0, 2)}, 0, 2, 3);
        DUE.row("goes on", new long[] {pair(2).epoch(0, 0), pair(2).epoch(0, 1), pair(2).epoch(0, 2)}, 0, -1, 3);
        DUE.row("one slot", new long[] {pair(1).epoch(0, 0), pair(1).epoch(0, 1), pair(1).epoch(0, 2)}, 0, -1, 3);
        SplitChannel x = Due.of(law0(200) + Due.sender(199, "0"));
        DUE.row("in slot 199", new long[] {x.epoch(0, 0), x.epoch(0, 1), x.epoch(0, 2)}, 199, 199, 1);
    }

    static void promise21NotSoMany() {
        String text = law0(30);
        for (int n = 0; n <= 10; n++) {
            SplitChannel x = Due.of(text);
            for (int i = 0; i < 12; i++) {
                for (int what = 0; what <= 1; what++) DUE.is(i + " of " + n, x.epoch(i, what), i < n ? 2 * i : -1);
                DUE.is(i + " of " + n, x.epoch(i, 2), i < n ? 1 << i : -1);
            }
            DUE.row("far above", new long[] {x.epoch(200, 0), x.epoch(Integer.MAX_VALUE, 0), x.epoch(Integer.MAX_VALUE, 2)}, -1, -1, -1);
            text += Due.sender(2 * n, "0");
        }
    }

    static void promise21BelowOrAnotherWhat() {
        SplitChannel x = pair(9);
        for (int bad : BELOW) {
            DUE.row("below " + bad, new long[] {x.epoch(bad, 0), x.epoch(0, bad), x.epoch(1, bad), x.epoch(bad, bad)}, -2, -2, -2, -2);
        }
        for (int what : new int[] {3, 4, Integer.MAX_VALUE}) {
            DUE.row("what " + what, new long[] {x.epoch(0, what), x.epoch(1, what), x.epoch(-1, what)}, -2, -2, -2);
        }
        for (SplitChannel y : withoutChannel()) DUE.row("none", new long[] {y.epoch(0, 0), y.epoch(9, 2), y.epoch(-1, 0)}, -2, -2, -2);
    }

    static void promise21AnEpochWithoutAnyIsNone() {
        SplitChannel x = Due.of(law0(9) + Due.noise(0, "many") + Due.sender(4, "0"));
        DUE.row("the first with some", new long[] {x.epochs(), x.epoch(0, 0), x.epoch(0, 1), x.epoch(0, 2), x.epoch(1, 0)}, 1, 4, 4, 1, -1);
    }

    // ---- promise 22: "from a SENDER's coming to its delivery (both, too; to the last SLOT, if it is not delivered)"

    static void promise22FromItsComingToo() {
        int[] due = {2, 2, 1, 0, 0};
        for (int at = 0; at <= 4; at++) {
            SplitChannel x = Due.of(law0(9) + ZERO + ONE + Due.sender(at, "11"));
            // one that comes at 0 splits with both; 0 is through at 1, and 1 with it at last
            if (at > 0) DUE.is("comes at " + at, x.behind(2), due[at]);
        }
        SplitChannel x = Due.of(law0(9) + Due.sender(1, "1") + ZERO + Due.noise(1, "one"));
        DUE.row("its own does not count", new long[] {x.behind(0), x.behind(1)}, 0, 0);
    }

    static void promise22ToItsDelivery() {
        SplitChannel x = Due.of(law0(9) + ZERO + ONE + Due.sender(3, "0"));
        DUE.row("those behind it do not count", Due.answers(x, "behind", 3), 0, 1, 0);
    }

    static void promise22ToTheLastSlotIfItIsNotDelivered() {
        DUE.row("the last slot too", Due.answers(pair(2), "behind", 2), 0, 1);
        DUE.row("none in one slot", Due.answers(pair(1), "behind", 2), 0, 0);
        String nine = "";
        for (int i = 0; i < 9; i++) nine += Due.sender(190 + i, "0");
        SplitChannel x = Due.of(Due.channel(2, 200, 0, 1) + nine + Due.sender(199, "0"));
        DUE.row("one by one", Due.answers(x, "behind", 10), Due.same(10, 0));
    }

    static void promise22NoSlotBehindTheLastOf200() {
        SplitChannel x = Due.of(law0(200) + ZERO + ZERO + Due.sender(199, "0"));
        DUE.row("none is delivered", Due.answers(x, "behind", 3), 0, 0, 0);
        x = Due.of(Due.channel(2, 200, 0, 1) + ZERO + ONE + Due.sender(199, "0") + Due.sender(199, "0"));
        DUE.row("two are, at 1 and 2", Due.answers(x, "behind", 4), 0, 1, 0, 0);
    }

    static void promise22OneThatComesBehindTheLastSlot() {
        SplitChannel x = Due.of(law0(3) + ZERO + Due.sender(1, "0") + Due.sender(2, "0") + Due.sender(3, "0") + Due.sender(199, "0"));
        DUE.row("behind", Due.answers(x, "behind", 5), 0, 0, 0, 0, 0);
    }

    static void promise22NineOthers() {
        // nine are parted by their bits one by one ahead of the tenth, which takes ones alone
        String text = law0(40);
        for (int i = 0; i < 9; i++) text += Due.sender(0, "1".repeat(i) + "0");
        SplitChannel x = Due.of(text + Due.sender(0, "111111111111"));
        DUE.row("behind", Due.answers(x, "behind", 10), 0, 1, 2, 3, 4, 5, 6, 7, 8, 9);
        DUE.is("all", x.all(), 10);
    }
}
