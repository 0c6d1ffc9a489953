/** The bounds that section II of the terms names, in runs worked out by hand from its sentences. */
public final class RunEdgeTest {
    private static final Due DUE = new Due();

    public static void main(String[] args) {
        DUE.each(RunEdgeTest.class);
        DUE.close();
    }

    /** Senders that come long behind the last slot, so that a later one has the number wanted. */
    private static String absent(int many) {
        return Due.sender(199, "0").repeat(many);
    }

    private static String many(int from, int to) {
        String text = "";
        for (int t = from; t <= to; t++) text += Due.noise(t, "many");
        return text;
    }

    private static void epoch(SplitChannel x, int i, int first, int last, int who) {
        DUE.row("epoch " + i, new long[] {x.epoch(i, 0), x.epoch(i, 1), x.epoch(i, 2)}, first, last, who);
    }

    // ---- "RUN of SLOTS 0 .. H - 1", "none, one, many is so", "a NOISE at that SLOT"

    static void termsRunOfSlots0ToHLess1() {
        for (int law = 0; law <= 3; law++) {
            SplitChannel x = Due.of(Due.channel(law, 3, 0, 1) + Due.sender(2, "0") + Due.sender(3, "0"));
            DUE.row("law " + law, new long[] {x.slot(2, 0), x.slot(3, 0), x.delivered(0), x.delivered(1), x.tries(1)},
                1, -2, 2, -1, 0);
            x = Due.of(Due.channel(law, 1, 0, 1) + Due.sender(0, "0") + Due.sender(1, "0"));
            DUE.row("one slot", new long[] {x.slot(0, 2), x.slot(1, 2), x.all(), x.heard(1)}, 0, -2, 1, 1);
            x = Due.of(Due.channel(law, 200, 0, 1) + Due.sender(199, "0"));
            DUE.row("200 slots", new long[] {x.slot(199, 2), x.slot(200, 2), x.delivered(0), x.heard(0)}, 0, -2, 199, 199);
        }
    }

    static void termsNoneOneManyIsSo() {
        int[] heard = {0, 1, 2, 2, 2, 2, 2, 2, 2, 2, 2};
        for (int law = 0; law <= 3; law++) {
            for (int n = 0; n <= 10; n++) {
                SplitChannel x = Due.of(Due.channel(law, 1, 0, 1) + Due.sender(0, "0").repeat(n));
                DUE.row(n + " send", new long[] {x.slot(0, 0), x.slot(0, 1)}, n, heard[n]);
            }
        }
    }

    static void termsANoiseAtThatSlotAlone() {
        SplitChannel x = Due.of(Due.channel(0, 3, 0, 1) + Due.noise(1, "one") + Due.noise(2, "many") + Due.noise(3, "many"));
        DUE.row("is heard", Due.slots(x, 1, 3), 0, 1, 2);
        x = Due.of(Due.channel(0, 3, 0, 1) + Due.noise(0, "one") + Due.noise(199, "many"));
        DUE.row("is heard", Due.slots(x, 1, 3), 1, 0, 0);
    }

    // ---- "A SENDER comes at its SLOT, until it is delivered: when it alone sends, and one is HEARD"

    static void termsASenderComesAtItsSlot() {
        for (int law = 0; law <= 3; law++) {
            for (int at = 0; at <= 9; at++) {
                SplitChannel x = Due.of(Due.channel(law, 12, 0, 1) + Due.sender(at, "0"));
                DUE.row("law " + law + " at " + at, new long[] {x.delivered(0), x.tries(0), x.sends(at, 0), x.sends(at + 1, 0)},
                    at, 1, 1, 0);
            }
        }
    }

    static void termsDeliveredWhenItAloneSendsAndOneIsHeard() {
        String[] how = {"none", "one", "many"};
        for (int law = 0; law <= 3; law++) {
            for (int heard = 0; heard <= 2; heard++) {
                for (int n = 0; n <= 3; n++) {
                    SplitChannel x = Due.of(Due.channel(law, 1, 0, 1) + Due.sender(0, "0").repeat(n) + Due.noise(0, how[heard]));
                    int due = n == 1 && heard == 1 ? 1 : 0;
                    DUE.row("law " + law + ", " + n + " as " + heard, new long[] {x.all(), x.slot(0, 2), x.slot(0, 0)},
                        due, due - 1, n);
                }
            }
        }
    }

    // ---- "If none goes on as a SLOT begins, one does", "If no group is left, the EPOCH ends"

    static void termsNoGroupLeftTheEpochEnds() {
        for (int law = 0; law <= 1; law++) {
            SplitChannel x = Due.of(Due.channel(law, 9, 0, 1) + Due.sender(0, "0") + Due.sender(0, "1")
                + Due.sender(2, "0") + Due.sender(3, "1") + Due.sender(4, "0"));
            epoch(x, 0, 0, 2, 3);
            epoch(x, 1, 3, 5, 12);
            epoch(x, 2, 6, 6, 16);
            DUE.row("delivered", Due.answers(x, "delivered", 5), 1, 2, 4, 5, 6);
            DUE.row("depth", Due.slots(x, 3, 9), 2, 1, 0, 2, 1, 0, 0, 0, 0);
        }
    }

    static void termsAnEpochOfOneSlot() {
        SplitChannel x = Due.of(Due.channel(0, 4, 0, 1) + Due.sender(0, "0") + Due.sender(1, "0") + Due.sender(3, "0"));
        epoch(x, 0, 0, 0, 1);
        epoch(x, 1, 1, 1, 2);
        epoch(x, 2, 3, 3, 4);
    }

    static void termsAnEpochWithoutAnySender() {
        SplitChannel x = Due.of(Due.channel(0, 5, 0, 1) + Due.sender(2, "0"));
        DUE.row("depth", Due.slots(x, 3, 5), 0, 0, 0, 0, 0);
        DUE.row("is heard", Due.slots(x, 1, 5), 0, 0, 1, 0, 0);
        DUE.is("epochs", x.epochs(), 1);
        epoch(x, 0, 2, 2, 1);
    }

    /** Split by a noise it goes on; who comes meanwhile waits, and is none of its senders. */
    static void termsAnEpochWithoutAnySenderGoesOn() {
        SplitChannel x = Due.of(Due.channel(0, 6, 0, 1) + Due.sender(1, "0") + Due.noise(0, "many"));
        DUE.row("sent", Due.slots(x, 0, 6), 0, 0, 0, 1, 0, 0);
        DUE.row("depth", Due.slots(x, 3, 6), 2, 1, 0, 0, 0, 0);
        DUE.is("epochs", x.epochs(), 1);
        epoch(x, 0, 3, 3, 1);
    }

    // ---- "HEARD none or one: the group on top goes (those of it not delivered wait for a later EPOCH)"

    static void termsTheGroupHeardAsNoneWaitsForALaterEpoch() {
        SplitChannel x = Due.of(Due.channel(0, 5, 0, 1) + Due.sender(0, "0") + Due.sender(0, "1") + Due.noise(1, "none"));
        DUE.row("delivered", Due.answers(x, "delivered", 2), 3, 2);
        DUE.row("tries", Due.answers(x, "tries", 2), 3, 2);
        epoch(x, 0, 0, 2, 3);
        epoch(x, 1, 3, 3, 1);
    }

    static void termsTheGroupHeardAsOneWaitsForALaterEpoch() {
        SplitChannel x = Due.of(Due.channel(0, 8, 0, 1) + Due.sender(0, "00") + Due.sender(0, "01") + Due.sender(0, "1")
            + Due.noise(1, "one"));
        DUE.row("sent", Due.slots(x, 0, 7), 3, 2, 1, 2, 1, 1, 0);
        DUE.row("delivered", Due.answers(x, "delivered", 3), 4, 5, 2);
        epoch(x, 1, 3, 5, 3);
    }

    // ---- "HEARD many: it is SPLIT", "those with 0 are the first group, those with 1 the second one"

    static void termsHeardManyItIsSplitWhoeverSent() {
        SplitChannel x = Due.of(Due.channel(0, 5, 0, 1) + Due.sender(0, "1") + Due.noise(0, "many"));
        DUE.row("sent", Due.slots(x, 0, 5), 1, 0, 1, 0, 0);
        DUE.row("depth", Due.slots(x, 3, 5), 2, 1, 0, 0, 0);
        DUE.row("one", new long[] {x.delivered(0), x.taken(0)}, 2, 1);
    }

    static void termsThoseWith0AreTheFirstGroup() {
        for (int law = 0; law <= 2; law++) {
            SplitChannel x = Due.of(Due.channel(law, 5, 0, 1) + Due.sender(0, "1") + Due.sender(0, "0"));
            DUE.row("law " + law, new long[] {x.delivered(0), x.delivered(1)}, 2, 1);
        }
    }

    /** One of n bits and one of a bit more tell the same n bits; the next is the first one again, 1, and 0. */
    static void termsBehindTheLastBitTheFirstAgain() {
        for (int law = 0; law <= 2; law++) {
            for (int n = 1; n <= 11; n++) {
                String bits = "1" + "0".repeat(n - 1);
                SplitChannel x = Due.of(Due.channel(law, 200, 0, 1) + Due.sender(0, bits) + Due.sender(0, bits + "0"));
                DUE.row("law " + law + ", " + n, new long[] {x.taken(0), x.taken(1), x.order(0), x.order(1)}, n + 1, n + 1, 1, 0);
            }
            SplitChannel x = Due.of(Due.channel(law, 200, 0, 1) + Due.sender(0, "100101001010") + Due.sender(0, "10010"));
            DUE.row("law " + law + ", 12", new long[] {x.taken(0), x.taken(1), x.order(0), x.order(1)}, 13, 13, 1, 0);
        }
    }

    static void termsBitsPartAtTheTwelfth() {
        for (int law = 0; law <= 2; law++) {
            SplitChannel x = Due.of(Due.channel(law, 200, 0, 1) + Due.sender(0, "000000000001") + Due.sender(0, "000000000000"));
            DUE.row("law " + law, new long[] {x.taken(0), x.taken(1), x.order(0), x.order(1)}, 12, 12, 1, 0);
        }
    }

    // ---- SKIP: "At most K SKIPS come so in a row"

    private static final String ALIKE = Due.sender(0, "111111111110") + Due.sender(0, "111111111111");

    static void termsAtMostKSkipsInARowThenItSends() {
        for (int k = 0; k <= 9; k++) {
            SplitChannel x = Due.of(Due.channel(1, 40, k, 1) + ALIKE);
            DUE.row("slot 0", new long[] {x.slot(0, 0), x.slot(0, 3), x.slot(0, 4)}, 2, 2, 0);
            for (int t = 1; t <= k; t++) {
                DUE.row("skip of " + k + " behind " + t, new long[] {x.slot(t, 0), x.slot(t, 3), x.slot(t, 4)}, 0, 2, 1);
            }
            DUE.row("no more than " + k, new long[] {x.slot(k + 1, 0), x.slot(k + 1, 3), x.slot(k + 1, 4)}, 0, 1, 0);
            DUE.row("then it sends", new long[] {x.slot(k + 2, 0), x.slot(k + 2, 1), x.slot(k + 2, 3)}, 2, 2, 2);
            DUE.is("a new row of " + k, x.slot(k + 3, 4), k == 0 ? 0 : 1);
        }
    }

    /** A group without any, split by a noise, is skipped through; then its last second group sends. */
    static void termsSkipsByLaws1And3() {
        for (int law = 1; law <= 3; law += 2) {
            for (int k = 0; k <= 9; k++) {
                SplitChannel x = Due.of(Due.channel(law, 20, k, 1) + Due.sender(1, "0") + Due.noise(0, "many"));
                for (int t = 0; t <= k; t++) {
                    DUE.row("law " + law + ", " + k + " behind " + t, new long[] {x.slot(t, 3), x.slot(t, 4)}, 2, t == 0 ? 0 : 1);
                }
                DUE.row("behind the row", new long[] {x.slot(k + 1, 3), x.slot(k + 1, 4), x.slot(k + 2, 3), x.slot(k + 2, 4)},
                    1, 0, 0, 0);
                DUE.row("whole", new long[] {x.skips(), x.delivered(0), x.deepest()}, k, k + 3, 2);
            }
        }
    }

    static void termsNoSkipsByLaws0And2() {
        for (int k = 0; k <= 9; k++) {
            SplitChannel x = Due.of(Due.channel(0, 20, k, 1) + Due.sender(1, "0") + Due.noise(0, "many"));
            DUE.row("law 0", new long[] {x.skips(), x.delivered(0), x.slot(1, 3), x.slot(2, 3)}, 0, 3, 1, 0);
            x = Due.of(Due.channel(2, 20, k, 1) + Due.sender(1, "0") + Due.noise(0, "many"));
            DUE.row("law 2", new long[] {x.skips(), x.delivered(0), x.slot(1, 3)}, 0, 1, 0);
            x = Due.of(Due.channel(2, 40, k, 1) + Due.sender(0, "10") + Due.sender(0, "11"));
            DUE.row("law 2", new long[] {x.skips(), x.delivered(0), x.delivered(1)}, 0, 3, 4);
        }
    }

    static void termsTheDoomedIsSplitNoSlotGoingBy() {
        SplitChannel x = Due.of(Due.channel(1, 6, 1, 1) + Due.sender(0, "10") + Due.sender(0, "11"));
        DUE.row("sent", Due.slots(x, 0, 6), 2, 0, 1, 1, 0, 0);
        DUE.row("depth", Due.slots(x, 3, 6), 2, 2, 1, 0, 0, 0);
        DUE.row("skips", Due.slots(x, 4, 6), 0, 1, 0, 0, 0, 0);
        DUE.row("taken", Due.answers(x, "taken", 2), 2, 2);
    }

    /** None heard of a second group, or behind one heard alone, dooms nothing. */
    static void termsNoSkipButBehindASplitOfTheGroup() {
        SplitChannel x = Due.of(Due.channel(1, 8, 9, 1) + Due.sender(0, "00") + Due.sender(0, "01"));
        DUE.row("sent", Due.slots(x, 0, 6), 2, 2, 1, 1, 0, 0);
        DUE.row("depth", Due.slots(x, 3, 6), 2, 3, 2, 1, 0, 0);
        DUE.row("skips", new long[] {x.skips(), x.epoch(0, 1)}, 0, 4);
        x = Due.of(Due.channel(1, 5, 9, 1) + Due.sender(0, "0") + Due.noise(0, "many"));
        DUE.row("depth", Due.slots(x, 3, 5), 2, 1, 0, 0, 0);
        DUE.row("skips", new long[] {x.skips(), x.delivered(0)}, 0, 1);
        x = Due.of(Due.channel(1, 5, 9, 1));
        DUE.row("without any split", new long[] {x.skips(), x.deepest()}, 0, 0);
    }

    static void termsNoneHeardByANoiseDooms() {
        SplitChannel x = Due.of(Due.channel(1, 9, 9, 1) + Due.sender(0, "00") + Due.sender(0, "01") + Due.sender(0, "10")
            + Due.sender(0, "11") + Due.noise(1, "none"));
        DUE.row("sent", Due.slots(x, 0, 8), 4, 2, 1, 1, 2, 1, 1, 0);
        DUE.row("skips", Due.slots(x, 4, 8), 0, 1, 0, 0, 0, 0, 0, 0);
        DUE.row("delivered", Due.answers(x, "delivered", 4), 5, 6, 2, 3);
    }

    static void termsOneHeardByANoiseDoomsNothing() {
        SplitChannel x = Due.of(Due.channel(1, 6, 9, 1) + Due.sender(0, "10") + Due.sender(0, "11") + Due.noise(1, "one"));
        DUE.row("sent", Due.slots(x, 0, 6), 2, 0, 2, 1, 1, 0);
        DUE.row("whole", new long[] {x.skips(), x.delivered(0), x.delivered(1)}, 0, 3, 4);
    }

    // ---- "LAW 3: by TIME": "from a to before m, m to before b, m: a and half of b less a (cut)"

    static void termsAMomentBelowTheMiddleIsOfTheFirst() {
        SplitChannel x = Due.of(Due.channel(3, 6, 0, 1) + absent(7) + Due.sender(0, "0") + Due.sender(0, "0"));
        DUE.row("7 and 8 of 0 to before 16", Due.slots(x, 0, 4), 2, 1, 1, 0);
        x = Due.of(Due.channel(3, 6, 0, 1) + absent(3) + Due.sender(0, "0") + Due.sender(0, "0"));
        DUE.row("3 and 4 of 0 to before 16", Due.slots(x, 0, 5), 2, 2, 1, 1, 0);
        x = Due.of(Due.channel(3, 6, 0, 1) + Due.sender(0, "0") + Due.sender(0, "0"));
        DUE.row("0 and 1 of 0 to before 16", Due.slots(x, 0, 6), 2, 2, 2, 2, 1, 1);
    }

    /** From 5 to before 32 half is 13, cut: the middle is 18, which is of the second; from 5 to before 18 it is 11. */
    static void termsHalfOfAnOddStretchIsCut() {
        SplitChannel x = Due.of(Due.channel(3, 8, 0, 2) + Due.sender(199, "0") + Due.sender(1, "0") + Due.sender(1, "0")
            + Due.sender(199, "0") + Due.sender(199, "0") + Due.sender(0, "0") + Due.noise(0, "none"));
        DUE.row("sent", Due.slots(x, 0, 7), 1, 3, 2, 1, 1, 1, 0);
        DUE.row("delivered", new long[] {x.delivered(5), x.delivered(1), x.delivered(2)}, 3, 4, 5);
    }

    /** Noises split one sender's group down to a stretch of one moment: all of that is its second half. */
    static void termsAStretchOfOneMoment() {
        SplitChannel x = Due.of(Due.channel(3, 9, 0, 1) + Due.sender(0, "0") + many(0, 4));
        DUE.row("sent", Due.slots(x, 0, 9), 1, 1, 1, 1, 1, 0, 1, 0, 0);
        DUE.row("no skips", new long[] {x.delivered(0), x.skips()}, 6, 0);
        x = Due.of(Due.channel(3, 9, 1, 1) + Due.sender(0, "0") + many(0, 4));
        DUE.row("sent", Due.slots(x, 0, 9), 1, 1, 1, 1, 1, 0, 0, 1, 0);
        DUE.row("a skip", new long[] {x.delivered(0), x.slot(5, 4), x.slot(6, 4), x.skips()}, 7, 1, 0, 1);
    }

    // ---- "WINDOW: from EDGE to before the lesser of EDGE and 16 W, and 16 t and 16; EDGE is there then"

    /** Noises keep the first epoch going to slot 20; the window at 21 is then from 16 on, 16 W long. */
    static void termsAWindowIs16WLong() {
        for (int w = 1; w <= 20; w++) {
            SplitChannel x = Due.of(Due.channel(3, 30, 0, w) + Due.sender(w + 1, "0") + Due.sender(w, "0") + many(0, 9));
            epoch(x, 0, 21, 21, 2);
            epoch(x, 1, 22, 22, 1);
            DUE.row("window " + w, Due.answers(x, "delivered", 2), 22, 21);
        }
    }

    /** A window goes no farther than its epoch's first slot: the edge then leaves out none that comes later. */
    static void termsAWindowEndsWithItsFirstSlot() {
        for (int w = 1; w <= 20; w++) {
            for (int at = 0; at <= 5; at++) {
                SplitChannel x = Due.of(Due.channel(3, 7, 0, w) + Due.sender(at, "0") + Due.sender(at + 1, "0"));
                DUE.row("window " + w, Due.answers(x, "delivered", 2), at, at + 1);
            }
            SplitChannel x = Due.of(Due.channel(3, 7, 0, w) + absent(7) + Due.sender(0, "0") + Due.sender(0, "0"));
            DUE.row("window " + w + " at 0 is to before 16", Due.slots(x, 0, 4), 2, 1, 1, 0);
        }
    }

    /** The edge goes back to 5; of the window from 5 to before 21 are 5 itself and 20, not 22. */
    static void termsAWindowsTwoBounds() {
        SplitChannel x = Due.of(Due.channel(3, 8, 0, 1) + absent(4) + Due.sender(1, "0") + Due.sender(0, "0") + Due.sender(1, "0")
            + Due.noise(0, "none"));
        epoch(x, 0, 0, 0, 1 << 5);
        epoch(x, 1, 1, 3, 1 << 5 | 1 << 4);
        epoch(x, 2, 4, 4, 1 << 6);
        DUE.row("delivered", new long[] {x.delivered(4), x.delivered(5), x.delivered(6)}, 3, 2, 4);
    }

    // ---- "EDGE goes back to the least MOMENT of those, as the EPOCH ends"

    static void termsEdgeGoesBackToTheLeastOfThoseNotDelivered() {
        SplitChannel x = Due.of(Due.channel(3, 20, 0, 1) + absent(2) + Due.sender(1, "0") + Due.sender(0, "0") + Due.sender(1, "0")
            + absent(2) + Due.sender(0, "0") + Due.noise(0, "one"));
        epoch(x, 0, 0, 0, 1 << 3 | 1 << 7);
        DUE.row("from 3 to before 19", new long[] {x.epoch(1, 0), x.epoch(1, 2)}, 1, 1 << 2 | 1 << 3 | 1 << 7);
    }

    static void termsEdgeGoesBackToWhicheverSender() {
        for (int i = 0; i <= 9; i++) {
            SplitChannel x = Due.of(Due.channel(3, 12, 0, 1) + absent(i) + Due.sender(0, "0") + absent(9 - i) + Due.noise(0, "none"));
            DUE.row("sender " + i, new long[] {x.delivered(i), x.epochs(), x.epoch(1, 2)}, 1, 2, 1 << i);
        }
    }

    static void termsEdgeGoesBackAgainAndAgain() {
        for (int n = 1; n <= 9; n++) {
            String text = Due.channel(3, 12, 0, 1) + absent(5) + Due.sender(0, "0");
            for (int t = 0; t < n; t++) text += Due.noise(t, "none");
            SplitChannel x = Due.of(text);
            DUE.row(n + " noises", new long[] {x.delivered(5), x.tries(5), x.epochs()}, n, n + 1, n + 1);
        }
    }

    static void termsEdgeStaysIfAllAreDelivered() {
        SplitChannel x = Due.of(Due.channel(3, 6, 0, 1) + absent(5) + Due.sender(0, "0") + Due.sender(1, "0") + Due.sender(1, "0"));
        epoch(x, 0, 0, 0, 1 << 5);
        epoch(x, 1, 1, -1, 3 << 6);
        DUE.row("22 and 23 are of 16 to before 24, of 20 to before 24, of 22 to before 24", Due.slots(x, 0, 6), 1, 2, 2, 0, 2, 0);
    }

    // ---- LAW 2: "each SENDER has a COUNTER, 0 as it comes; those with 0 send"

    static void termsACounterIs0AsItsSenderComes() {
        SplitChannel x = Due.of(Due.channel(2, 6, 0, 1) + Due.sender(0, "1") + Due.sender(0, "0") + Due.sender(1, "1"));
        DUE.row("sent", Due.slots(x, 0, 6), 2, 2, 1, 1, 1, 0);
        DUE.row("depth", Due.slots(x, 3, 6), 2, 3, 2, 1, 0, 0);
        DUE.row("delivered", Due.answers(x, "delivered", 3), 4, 2, 3);
    }

    static void termsAllOthersThatHaveComeHave1More() {
        SplitChannel x = Due.of(Due.channel(2, 6, 0, 1) + Due.sender(0, "1") + Due.sender(2, "1") + many(0, 1));
        DUE.row("sent", Due.slots(x, 0, 6), 1, 0, 1, 0, 1, 0);
        DUE.row("depth", Due.slots(x, 3, 6), 2, 3, 2, 1, 0, 0);
        DUE.row("delivered", Due.answers(x, "delivered", 2), 4, 2);
        DUE.row("taken", Due.answers(x, "taken", 2), 1, 0);
    }

    /** Many is heard where none sends, then none: a counter of 1 is 2, then 1, then 0. */
    static void termsAllOthersHave1Less() {
        SplitChannel x = Due.of(Due.channel(2, 6, 0, 1) + Due.sender(0, "0") + Due.sender(0, "1") + Due.noise(2, "one"));
        DUE.row("delivered", Due.answers(x, "delivered", 2), 1, 2);
        x = Due.of(Due.channel(2, 6, 0, 1) + Due.sender(0, "0") + Due.sender(0, "1") + Due.noise(1, "none"));
        DUE.row("two have 0 then", Due.slots(x, 0, 5), 2, 1, 2, 1, 1);
    }

    static void termsOthersThatSentHave0Still() {
        SplitChannel x = Due.of(Due.channel(2, 6, 0, 1) + Due.sender(0, "0") + Due.sender(0, "1") + Due.noise(0, "one")
            + Due.noise(1, "none"));
        DUE.row("sent", Due.slots(x, 0, 6), 2, 2, 2, 1, 1, 0);
        DUE.row("depth", Due.slots(x, 3, 6), 1, 1, 2, 1, 0, 0);
        DUE.row("taken", Due.answers(x, "taken", 2), 1, 1);
    }

    // ---- "DEPTH: how many groups there are (LAW 2: the greatest COUNTER, and 1; 0 without any)"

    static void termsDepthByLaw2Is0WithoutAny() {
        SplitChannel x = Due.of(Due.channel(2, 5, 0, 1) + Due.sender(2, "0") + Due.noise(2, "none"));
        DUE.row("depth", Due.slots(x, 3, 5), 0, 0, 1, 0, 0);
    }

    /** 200 splits leave 201 groups; a counter goes up by one a slot from the first split on. */
    static void termsTheGreatestDepth() {
        String two = Due.sender(0, "0").repeat(2);
        SplitChannel x = Due.of(Due.channel(0, 200, 0, 1) + two);
        DUE.row("law 0", new long[] {x.slot(0, 3), x.slot(198, 3), x.slot(199, 3), x.deepest()}, 2, 200, 201, 201);
        x = Due.of(Due.channel(1, 200, 9, 1) + two);
        DUE.row("law 1", new long[] {x.slot(0, 3), x.slot(198, 3), x.slot(199, 3), x.deepest()}, 2, 200, 201, 201);
        x = Due.of(Due.channel(2, 200, 0, 1) + two + Due.sender(0, "1"));
        DUE.row("law 2", new long[] {x.slot(0, 3), x.slot(198, 3), x.slot(199, 3), x.deepest()}, 2, 200, 201, 201);
    }

    /** Ten split by bits: those of 0 send, then those of 1, in each law; the tenth is as the others are. */
    static void termsTenSendersTakePart() {
        for (int law = 0; law <= 2; law++) {
            for (int i = 0; i <= 8; i++) {
                SplitChannel x = Due.of(Due.channel(law, 9, 0, 1) + absent(i) + Due.sender(0, "0") + absent(8 - i) + Due.sender(0, "1"));
                DUE.row("law " + law + ", " + i, new long[] {x.delivered(i), x.delivered(9), x.tries(9), x.taken(9), x.sends(0, 9),
                    x.sends(1, 9), x.sends(2, 9)}, 1, 2, 2, 1, 1, 0, 1);
            }
        }
        SplitChannel x = Due.of(Due.channel(3, 9, 0, 1) + absent(8) + Due.sender(0, "0").repeat(2));
        DUE.row("8 and 9 by time", Due.slots(x, 0, 8), 2, 0, 2, 2, 2, 1, 1, 0);
    }

    static void termsSendersTakingPartAreThoseAsTheEpochBegins() {
        SplitChannel x = Due.of(Due.channel(0, 9, 0, 1) + Due.sender(0, "0") + Due.sender(0, "1") + Due.sender(1, "0"));
        epoch(x, 0, 0, 2, 3);
        epoch(x, 1, 3, 3, 4);
        x = Due.of(Due.channel(0, 9, 0, 1) + Due.sender(0, "0").repeat(10));
        epoch(x, 0, 0, -1, 1023);
    }
}
