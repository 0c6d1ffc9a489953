/** The bounds that promises 1 to 7 and 25 name: the tape, the channel, faults, counts, senders and noises as told. */
public final class FeedEdgeTest {
    private static final Due DUE = new Due();
    private static final int[] ENDS = {Integer.MIN_VALUE, Integer.MIN_VALUE + 1, -1000000, -2, -1};
    private static final String HEAD = Due.channel(0, 5, 0, 1);

    public static void main(String[] args) {
        DUE.each(FeedEdgeTest.class);
        DUE.close();
    }

    private static SplitChannel fed(int bytes) {
        SplitChannel x = new SplitChannel();
        for (int i = 0; i < bytes; i += 20) x.feed(0, 0, 0, 0, 0);
        x.end(bytes);
        return x;
    }

    private static long[] counts(SplitChannel x) {
        long[] row = new long[9];
        for (int i = 0; i < 9; i++) row[i] = x.count(i);
        return row;
    }

    // ---- promise 1: "No CHANNEL."

    static void promise1NoChannel() {
        SplitChannel x = new SplitChannel();
        DUE.row("no channel", new long[] {x.order(0), x.all(), x.done(), x.heard(0), x.collided(), x.skips(), x.deepest(),
            x.epochs(), x.epoch(0, 0), x.by(0, 0), x.worst(), x.add(0, 0, 1), x.disturb(0, 0), x.rule(0), x.undo(), x.anew()},
            Due.same(16, -2));
        DUE.row("counts", counts(x), Due.same(9, 0));
        DUE.is("NONE", SplitChannel.NONE, -1);
    }

    // ---- promise 2: "Twenty bytes come behind the TAPE, four of each number, the highest first: how many it has"

    static void promise2TwentyBytesCome() {
        SplitChannel x = new SplitChannel();
        for (int i = 1; i <= 25; i++) DUE.row("feed " + i, new long[] {x.feed(i, 0, 0, 0, 0), x.count(8)}, 20 * i, 20 * i);
    }

    static void promise2NoneComeIfItWouldHaveMoreThan500() {
        SplitChannel x = fed(500);
        DUE.row("500 and 20", new long[] {x.feed(0, 0, 0, 0, 0), x.count(8), x.end(501), x.end(500)}, -1, 500, -1, 500);
        for (int n = 479; n <= 482; n++) {
            x = fed(n);
            DUE.row(n + " and 20", new long[] {x.feed(0, 0, 0, 0, 0), x.count(8)}, n <= 480 ? n + 20 : -1, n <= 480 ? n + 20 : n);
        }
    }

    static void promise2ARefusedOneLeavesTheBytes() {
        SplitChannel x = new SplitChannel();
        Due.feed(x, HEAD + " ".repeat(500 - HEAD.length()));
        DUE.row("refused", new long[] {x.feed(-1, -1, -1, -1, -1), x.count(8), x.channel()}, -1, 500, 1);
    }

    /** A byte of each place in turn is none of a token: its place is told. */
    static void promise2FourOfEachNumberTheHighestFirst() {
        for (int i = 0; i < 20; i++) {
            int[] n = {0x20202020, 0x20202020, 0x20202020, 0x20202020, 0x20202020};
            n[i / 4] = n[i / 4] & ~(255 << 24 - i % 4 * 8) | 0xff << 24 - i % 4 * 8;
            SplitChannel x = new SplitChannel();
            x.feed(n[0], n[1], n[2], n[3], n[4]);
            DUE.row("byte " + i, new long[] {x.channel(), x.fault(0), x.fault(1)}, -4, 1, i);
        }
    }

    static void promise2TheLeastAndTheGreatestNumber() {
        for (int n : new int[] {Integer.MIN_VALUE, Integer.MAX_VALUE, -1, 0}) {
            SplitChannel x = new SplitChannel();
            DUE.row("feed " + n, new long[] {x.feed(n, n, n, n, n), x.channel(), x.fault(0), x.fault(1)}, 20, -4, 1, 0);
        }
        // of the greatest the first byte is 127, of the least 128, the others 255, 0: none is a blank
        SplitChannel x = new SplitChannel();
        DUE.row("feed", new long[] {x.feed(0x0a0a0a0a, 0x0a0a0a0a, Integer.MIN_VALUE, 0, 0), x.channel(), x.fault(1)}, 20, -4, 8);
    }

    // ---- promise 3: "its first n bytes alone: n; NONE, and nothing happens, if it has not so many, or n is below 0"

    static void promise3EndAt0AndAtTheWholeLength() {
        for (int length : new int[] {20, 40, 480, 500}) {
            SplitChannel x = fed(length);
            DUE.row("the whole of " + length, new long[] {x.end(length), x.count(8)}, length, length);
            DUE.row("one less", new long[] {x.end(length - 1), x.count(8), x.end(length)}, length - 1, length - 1, -1);
            DUE.row("none", new long[] {x.end(0), x.count(8), x.end(0), x.end(1)}, 0, 0, 0, -1);
        }
    }

    static void promise3OfAnEmptyTape() {
        SplitChannel x = new SplitChannel();
        DUE.row("empty", new long[] {x.end(0), x.end(1), x.end(-1), x.count(8)}, 0, -1, -1, 0);
    }

    static void promise3NotSoManyOrBelow0() {
        SplitChannel x = fed(40);
        for (int n : new int[] {41, 42, 500, 501, Integer.MAX_VALUE}) DUE.row("end " + n, new long[] {x.end(n), x.count(8)}, -1, 40);
        for (int n : ENDS) DUE.row("end " + n, new long[] {x.end(n), x.count(8)}, -1, 40);
    }

    static void promise3TheFirstBytesAlone() {
        SplitChannel x = new SplitChannel();
        Due.feed(x, HEAD + Due.sender(0, "0") + ",");
        DUE.row("sender", new long[] {x.end(58), x.channel(), x.count(4)}, 58, 2, 1);
        Due.feed(x, HEAD + Due.sender(0, "0"));
        DUE.row("the sign is gone", new long[] {x.end(57), x.channel(), x.fault(1)}, 57, -4, 57);
        Due.feed(x, HEAD + Due.sender(0, "0"));
        DUE.row("the sender is gone", new long[] {x.end(39), x.channel(), x.count(4)}, 39, 1, 0);
        Due.feed(x, "x");
        x.end(0);
        DUE.row("what comes behind is first", new long[] {x.feed(0x20202020, 0x78202020, 0, 0, 0), x.channel(), x.fault(1)}, 20, -4, 4);
    }

    /** What is behind the first n bytes is gone, be it a blank, a letter or a digit. */
    static void promise3WhatIsCutOffIsGone() {
        SplitChannel x = new SplitChannel();
        Due.feed(x, "channel   ");
        DUE.row("blanks", new long[] {x.end(7), x.channel(), x.fault(0), x.fault(1)}, 7, -4, 1, 7);
        Due.feed(x, "channels");
        DUE.row("a letter", new long[] {x.end(7), x.channel(), x.fault(0), x.fault(1)}, 7, -4, 1, 7);
        Due.feed(x, "channel law 30");
        DUE.row("a digit", new long[] {x.end(13), x.channel(), x.fault(0), x.fault(1)}, 13, -4, 1, 13);
        Due.feed(x, HEAD);
        DUE.row("a sign", new long[] {x.end(38), x.channel(), x.fault(0), x.fault(1)}, 38, -4, 1, 38);
        Due.feed(x, HEAD);
        DUE.row("all", new long[] {x.end(0), x.channel(), x.fault(0), x.fault(1)}, 0, 0, 0, -1);
        Due.feed(x, " ".repeat(20));
        DUE.row("the end among blanks", new long[] {x.end(3), x.feed(0x63686120, 0, 0, 0, 0), x.end(6), x.channel(), x.fault(1)},
            3, 23, 6, -4, 3);
    }

    // ---- promise 4: "(empty then)", "(in place of another)", "no acts", "0: there is none then", "a FAULT (all else stays)"

    static void promise4HowManyLines() {
        String text = HEAD;
        for (int lines = 1; lines <= 21; lines++) {
            SplitChannel x = Due.of(text);
            DUE.is("lines", x.count(7), lines);
            DUE.is("channel", Due.tell(x, text), lines);
            text += lines <= 10 ? Due.sender(0, "0") : Due.noise(lines, "one");
        }
        DUE.is("no lines", Due.tell(new SplitChannel(), ""), 0);
    }

    static void promise4TheTapeIsEmptyThen() {
        for (String text : new String[] {"", " ", HEAD, "x", HEAD + "x"}) {
            SplitChannel x = new SplitChannel();
            Due.feed(x, text);
            x.channel();
            DUE.row("behind " + text, new long[] {x.count(8), x.end(1), x.feed(0, 0, 0, 0, 0)}, 0, -1, 20);
        }
    }

    static void promise4InPlaceOfAnotherWithoutActs() {
        SplitChannel x = Due.of(Due.channel(3, 200, 9, 20) + Due.sender(0, "0").repeat(10) + Due.noise(3, "one"));
        x.disturb(4, 1);
        x.rule(1);
        DUE.row("another", new long[] {Due.tell(x, Due.channel(2, 1, 0, 1) + Due.sender(0, "1")), x.all()}, 2, 1);
        DUE.row("counts", counts(x), 2, 1, 0, 1, 1, 0, 0, 2, 0);
        DUE.row("no acts", new long[] {x.undo(), x.anew(), x.sender(1, 0), x.noise(0, 0), x.slot(1, 0)}, -5, 0, -2, -2, -2);
    }

    /** The one ahead of it stops right behind a split; none is heard in the first slot of the other. */
    static void promise4NothingGoesOnFromAnother() {
        for (int law = 1; law <= 3; law += 2) {
            SplitChannel x = Due.of(Due.channel(law, 1, 9, 1) + Due.noise(0, "many"));
            DUE.row("split", new long[] {x.slot(0, 3), x.skips(), x.epochs()}, 2, 0, 0);
            Due.tell(x, Due.channel(law, 3, 9, 1) + Due.sender(1, "0"));
            DUE.row("another", new long[] {x.slot(0, 3), x.slot(0, 4), x.skips(), x.delivered(0), x.epoch(0, 0)}, 0, 0, 0, 1, 1);
        }
    }

    static void promise4NoLinesNoChannel() {
        for (String text : new String[] {"", " ", "\n\n"}) {
            SplitChannel x = Due.of(Due.channel(3, 200, 9, 20) + Due.sender(0, "0") + Due.noise(0, "one"));
            x.add(0, 0, 1);
            DUE.is("lines", Due.tell(x, text), 0);
            DUE.row("counts", counts(x), Due.same(9, 0));
            DUE.row("none", new long[] {x.all(), x.undo(), x.anew(), x.sender(0, 0), x.noise(0, 0), x.without(0), x.slot(0, 0)},
                -2, -2, -2, -2, -2, -99, -2);
        }
    }

    static void promise4AFaultAllElseStays() {
        SplitChannel x = Due.of(Due.channel(1, 9, 2, 3) + Due.sender(0, "0") + Due.noise(2, "many"));
        x.add(1, 5, 3);
        x.disturb(8, 0);
        x.rule(2);
        String[] faulty = {"x", "channel law 4", Due.channel(0, 5, 0, 1) + "x", Due.channel(0, 5, 0, 1) + Due.sender(5, "01")
            + Due.noise(7, "one") + ";"};
        for (String text : faulty) {
            DUE.is("fault", Due.tell(x, text), -4);
            DUE.row("counts", counts(x), 2, 9, 2, 3, 2, 2, 3, 3, 0);
            DUE.row("stays", new long[] {x.sender(0, 0), x.sender(1, 0), x.sender(1, 4), x.noise(0, 0), x.noise(1, 0), x.all()},
                0, 1, 1, 2, 8, 2);
        }
        DUE.row("acts stay", new long[] {x.undo(), x.count(0), x.undo(), x.count(5), x.undo(), x.count(4), x.undo()},
            2, 1, 1, 1, 0, 1, -5);
    }

    static void promise4AFaultOfANewObject() {
        SplitChannel x = new SplitChannel();
        DUE.is("fault", Due.tell(x, Due.channel(0, 5, 0, 1) + Due.sender(5, "01") + "x"), -4);
        DUE.row("counts", counts(x), Due.same(9, 0));
        DUE.row("no channel still", new long[] {x.all(), x.sender(0, 0), x.slot(0, 0), x.undo()}, -2, -2, -2, -2);
    }

    // ---- promise 5: "0 without", "NONE without", "NONE for another what, and ahead of any (what 1)"

    static void promise5AheadOfAny() {
        SplitChannel x = new SplitChannel();
        DUE.row("ahead of any", new long[] {x.fault(0), x.fault(1), x.fault(2), x.fault(-1)}, 0, -1, -1, -1);
        Due.feed(x, "x");
        DUE.row("not yet read", new long[] {x.fault(0), x.fault(1)}, 0, -1);
    }

    static void promise5OfTheLatestChannel() {
        SplitChannel x = new SplitChannel();
        Due.tell(x, "  x");
        DUE.row("first", new long[] {x.fault(0), x.fault(1)}, 1, 2);
        Due.tell(x, "channel law 4");
        DUE.row("second", new long[] {x.fault(0), x.fault(1)}, 2, 12);
        x.feed(0, 0, 0, 0, 0);
        x.end(0);
        DUE.row("the tape is another thing", new long[] {x.fault(0), x.fault(1)}, 2, 12);
        Due.tell(x, HEAD);
        DUE.row("without", new long[] {x.fault(0), x.fault(1)}, 0, -1);
        Due.tell(x, HEAD + Due.sender(0, "0").repeat(10) + "sender");
        DUE.row("third", new long[] {x.fault(0), x.fault(1)}, 3, 229);
        Due.tell(x, "");
        DUE.row("of none", new long[] {x.fault(0), x.fault(1)}, 0, -1);
    }

    static void promise5PlaceAt0() {
        SplitChannel x = new SplitChannel();
        Due.tell(x, "x");
        DUE.row("place 0 is one", new long[] {x.fault(0), x.fault(1)}, 1, 0);
    }

    static void promise5AnotherWhat() {
        SplitChannel x = new SplitChannel();
        Due.tell(x, " x");
        for (int what : ENDS) DUE.is("fault " + what, x.fault(what), -1);
        for (int what : new int[] {2, 3, Integer.MAX_VALUE}) DUE.is("fault " + what, x.fault(what), -1);
    }

    // ---- promise 6: "0 LAW .. 8 bytes of the TAPE. NONE for others."

    static void promise6EachCount() {
        SplitChannel x = Due.of(Due.channel(3, 200, 9, 20) + Due.sender(0, "0") + Due.sender(0, "0") + Due.noise(0, "one"));
        x.feed(0, 0, 0, 0, 0);
        DUE.row("as told", counts(x), 3, 200, 9, 20, 2, 1, 0, 4, 20);
        x.rule(0);
        x.add(0, 0, 1);
        x.disturb(1, 1);
        x.disturb(2, 1);
        DUE.row("by acts", counts(x), 0, 200, 9, 20, 3, 3, 4, 4, 20);
    }

    static void promise6NoneForOthers() {
        for (SplitChannel x : new SplitChannel[] {new SplitChannel(), Due.of(HEAD)}) {
            for (int what : ENDS) DUE.is("count " + what, x.count(what), -1);
            for (int what : new int[] {9, 10, Integer.MAX_VALUE}) DUE.is("count " + what, x.count(what), -1);
        }
    }

    // ---- promise 7: "2 and more: BIT 0 and so on (to 13). NONE: it has not so many BITS; -2: there are none such."

    static void promise7WhatTo13() {
        SplitChannel x = Due.of(HEAD + Due.sender(199, "100000000001"));
        for (int what = 2; what <= 13; what++) DUE.is("what " + what, x.sender(0, what), what == 2 || what == 13 ? 1 : 0);
        DUE.row("below and above", new long[] {x.sender(0, 0), x.sender(0, 1), x.sender(0, -1), x.sender(0, 14),
            x.sender(0, Integer.MIN_VALUE), x.sender(0, Integer.MAX_VALUE)}, 199, 12, -2, -2, -2, -2);
    }

    static void promise7NotSoManyBits() {
        for (int n = 1; n <= 12; n++) {
            SplitChannel x = Due.of(HEAD + Due.sender(0, "0".repeat(n - 1) + "1"));
            for (int k = 0; k < 12; k++) {
                DUE.is("BIT " + k + " of " + n, x.sender(0, 2 + k), k < n - 1 ? 0 : k == n - 1 ? 1 : -1);
            }
            DUE.is("above", x.sender(0, 14), -2);
        }
    }

    static void promise7NoSuchSender() {
        for (int n = 0; n <= 10; n++) {
            SplitChannel x = Due.of(HEAD + Due.sender(3, "0").repeat(n));
            for (int i = 0; i < 12; i++) DUE.is(i + " of " + n, x.sender(i, 0), i < n ? 3 : -2);
            for (int i : ENDS) DUE.is("sender " + i, x.sender(i, 0), -2);
            DUE.row("sender", new long[] {x.sender(Integer.MAX_VALUE, 0), x.sender(n, 13), x.sender(-1, 14)}, -2, -2, -2);
        }
    }

    // ---- promise 25: "what 0: its SLOT, 1: as what it is HEARD. -2: there are none such."

    static void promise25EachWhat() {
        SplitChannel x = Due.of(HEAD + Due.noise(0, "none") + Due.noise(199, "one") + Due.noise(7, "many"));
        DUE.row("noises", new long[] {x.noise(0, 0), x.noise(0, 1), x.noise(1, 0), x.noise(1, 1), x.noise(2, 0), x.noise(2, 1)},
            0, 0, 199, 1, 7, 2);
        for (int what : ENDS) DUE.is("what " + what, x.noise(0, what), -2);
        for (int what : new int[] {2, 3, Integer.MAX_VALUE}) DUE.is("what " + what, x.noise(0, what), -2);
    }

    static void promise25NoSuchNoise() {
        String text = HEAD;
        for (int n = 0; n <= 10; n++) {
            SplitChannel x = Due.of(text);
            for (int i = 0; i < 12; i++) DUE.is(i + " of " + n, x.noise(i, 0), i < n ? 20 + i : -2);
            for (int i : ENDS) DUE.is("noise " + i, x.noise(i, 0), -2);
            DUE.is("noise", x.noise(Integer.MAX_VALUE, 0), -2);
            text += Due.noise(20 + n, "one");
        }
        DUE.is("without a channel", new SplitChannel().noise(0, 0), -2);
    }
}
