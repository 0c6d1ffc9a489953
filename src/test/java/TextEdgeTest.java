/** The bounds that section I of the terms names: numbers, senders, noises, faults, tokens. */
public final class TextEdgeTest {
    private static final Due DUE = new Due();
    private static final String HEAD = Due.channel(0, 5, 0, 1);

    public static void main(String[] args) {
        DUE.each(TextEdgeTest.class);
        DUE.close();
    }

    private static SplitChannel ok(String text, int lines) {
        SplitChannel x = new SplitChannel();
        DUE.is("channel of " + text, Due.tell(x, text), lines);
        DUE.row("fault of " + text, new long[] {x.fault(0), x.fault(1)}, 0, -1);
        return x;
    }

    private static void bad(String text, int fault, int place) {
        SplitChannel x = new SplitChannel();
        DUE.is("channel of " + text, Due.tell(x, text), -4);
        DUE.row("fault of " + text, new long[] {x.fault(0), x.fault(1)}, fault, place);
    }

    private static void behind(String text, int fault, int place) {
        bad(HEAD + text, fault, HEAD.length() + place);
    }

    // ---- "L 0 .. 3, H 1 .. 200, K 0 .. 9, W 1 .. 20"

    static void termsLaw0To3() {
        for (int law = 0; law <= 3; law++) DUE.is("law", ok(Due.channel(law, 5, 0, 1), 1).count(0), law);
        bad(Due.channel(4, 5, 0, 1), 2, 12);
        bad("channel law -1 slots 5", 1, 12);
    }

    static void termsSlots1To200() {
        for (int slots : new int[] {1, 2, 199, 200}) DUE.is("slots", ok(Due.channel(0, slots, 0, 1), 1).count(1), slots);
        bad(Due.channel(0, 0, 0, 1), 2, 20);
        bad(Due.channel(0, 201, 0, 1), 2, 20);
    }

    static void termsSkips0To9() {
        for (int skips = 0; skips <= 9; skips++) DUE.is("skips", ok(Due.channel(0, 5, skips, 1), 1).count(2), skips);
        bad(Due.channel(0, 5, 10, 1), 2, 28);
    }

    static void termsWindow1To20() {
        for (int window = 1; window <= 20; window++) DUE.is("window", ok(Due.channel(0, 5, 0, window), 1).count(3), window);
        bad(Due.channel(0, 5, 0, 0), 2, 37);
        bad(Due.channel(0, 5, 0, 21), 2, 37);
    }

    // ---- "T 0 .. 199, B 1 .. 12 digits, each 0 or 1", "S 0 .. 199"

    static void termsSenderSlot0To199() {
        for (int at : new int[] {0, 1, 198, 199}) DUE.is("at", ok(HEAD + Due.sender(at, "0"), 2).sender(0, 0), at);
        behind(Due.sender(200, "0"), 2, 10);
    }

    static void termsBits1To12Digits() {
        for (int n = 1; n <= 12; n++) DUE.is("bits", ok(HEAD + Due.sender(0, "1".repeat(n)), 2).sender(0, 1), n);
        behind(Due.sender(0, "1".repeat(13)), 2, 17);
        behind(Due.sender(0, ""), 1, 17);
    }

    static void termsBitsEach0Or1() {
        SplitChannel x = ok(HEAD + Due.sender(0, "01"), 2);
        DUE.row("bits", new long[] {x.sender(0, 2), x.sender(0, 3)}, 0, 1);
        for (int digit = 2; digit <= 9; digit++) {
            behind(Due.sender(0, "" + digit), 2, 17);
            behind(Due.sender(0, "00000000000" + digit), 2, 17);
        }
    }

    static void termsNoiseSlot0To199() {
        for (int at : new int[] {0, 1, 198, 199}) DUE.is("at", ok(HEAD + Due.noise(at, "one"), 2).noise(0, 0), at);
        behind(Due.noise(200, "one"), 2, 9);
    }

    static void termsHowNoneOneMany() {
        String[] how = {"none", "one", "many"};
        for (int i = 0; i < 3; i++) DUE.is("how", ok(HEAD + Due.noise(0, how[i]), 2).noise(0, 1), i);
        for (String word : new String[] {"two", "non", "nones", "on", "ones", "man", "manyy", "noise", "0", "1", "2", ";"}) {
            behind(Due.noise(0, word), 1, 14);
        }
    }

    /** Numbers that an int, or a long, would take for one within the bounds. */
    static void termsNumbersDoNotWrap() {
        for (String huge : new String[] {"4294967296", "4294967297", "2147483648", "18446744073709551616",
            "18446744073709551617", "9223372036854775808", "1" + "0".repeat(400), "9".repeat(400)}) {
            bad("channel law " + huge, 2, 12);
            bad("channel law 0 slots " + huge, 2, 20);
            bad("channel law 0 slots 5 skips " + huge, 2, 28);
            bad("channel law 0 slots 5 skips 0 window " + huge, 2, 37);
            behind("sender at " + huge, 2, 10);
            behind("noise at " + huge, 2, 9);
        }
    }

    // ---- "each once": a NOISE's SLOT

    static void termsNoiseSlotOnce() {
        for (int at : new int[] {0, 7, 199}) {
            String line = Due.noise(at, "one");
            behind(line + Due.noise(at, "one"), 2, line.length() + 9);
            behind(line + Due.noise(at, "none"), 2, line.length() + 9);
            behind(line + Due.sender(0, "0") + "noise at 00" + at, 2, line.length() + 19 + 9);
        }
        ok(HEAD + Due.noise(7, "one") + Due.noise(6, "one") + Due.noise(8, "one"), 4);
    }

    static void termsNoiseSlotOnceOfAllTold() {
        String ten = "";
        for (int i = 0; i < 9; i++) ten += Due.noise(i, "one");
        for (int i = 0; i < 9; i++) behind(ten + Due.noise(i, "one"), 2, ten.length() + 9);
        ok(HEAD + ten + Due.noise(9, "one"), 11);
    }

    static void termsSendersMayComeAtOneSlotAndAtANoise() {
        ok(HEAD + Due.noise(3, "one") + Due.sender(3, "0") + Due.sender(3, "0"), 4);
        ok(HEAD + Due.sender(3, "0") + Due.noise(3, "one"), 3);
    }

    // ---- "SENDERS 0 .. 9 as they stand", "NOISES 0 .. 9", "3 an eleventh sender, noise, at its word"

    private static String senders(int many) {
        return Due.sender(0, "0").repeat(many);
    }

    private static String noises(int many) {
        String text = "";
        for (int i = 0; i < many; i++) text += Due.noise(10 + i, "one");
        return text;
    }

    static void termsTenSendersAndAnEleventh() {
        DUE.is("senders", ok(HEAD + senders(10), 11).count(4), 10);
        behind(senders(11), 3, 190);
        behind(senders(10) + "sender", 3, 190);
        behind(senders(9) + "sender", 1, 177);
    }

    static void termsTenNoisesAndAnEleventh() {
        DUE.is("noises", ok(HEAD + noises(10), 11).count(5), 10);
        behind(noises(11), 3, 190);
        behind(noises(10) + "noise", 3, 190);
        behind(noises(9) + "noise", 1, 176);
    }

    static void termsTenOfEachAndAnEleventh() {
        SplitChannel x = ok(HEAD + senders(10) + noises(10), 21);
        DUE.row("of each", new long[] {x.count(4), x.count(5), x.count(7)}, 10, 10, 21);
        behind(senders(10) + noises(10) + "noise", 3, 380);
        behind(senders(10) + noises(10) + "sender", 3, 380);
        behind(noises(10) + senders(10) + "sender", 3, 380);
    }

    static void termsEleventhAtItsWordWhateverFollows() {
        behind(senders(10) + "sender at 200 bits 2", 3, 190);
        behind(senders(10) + "sender,", 3, 190);
        behind(noises(10) + "noise at 10 as one;", 3, 190);
        behind(noises(10) + "noise as", 3, 190);
        behind(senders(10) + "senders", 1, 190);
        behind(noises(10) + "noises", 1, 190);
    }

    static void termsSendersAsTheyStand() {
        SplitChannel x = ok(HEAD + Due.sender(9, "0") + Due.noise(8, "one") + Due.sender(7, "1") + Due.noise(6, "many"), 5);
        DUE.row("as they stand", new long[] {x.sender(0, 0), x.sender(1, 0), x.noise(0, 0), x.noise(1, 0)}, 9, 7, 8, 6);
    }

    // ---- "FAULTS, the first by its place, of one place the least"

    static void termsTheFirstFaultByItsPlace() {
        bad("channel law 4 slots 0 skips 10 window 0", 2, 12);
        bad("channel law 3 slots 0 skips 10 window 0", 2, 20);
        bad("channel law 3 slots 1 skips 10 window 0", 2, 28);
        bad("channel law 3 slots 1 skips 9 window 0", 2, 37);
        bad("channel law 3 slots 1 skips 9 window 1", 1, 38);
        bad("channel law , slots 0", 1, 12);
        bad("channel law 4, slots", 2, 12);
        behind("sender at 200 bits 2 , sender", 2, 10);
        behind(senders(10) + "sender at 200;", 3, 190);
        behind(senders(9) + "sender at 200 bits 0;" + senders(1), 2, 181);
        behind(noises(9) + "noise at 10 as two;noise", 2, 180);
    }

    /** A word that begins an eleventh sender's line ahead of the channel: 1 is less than 3. */
    static void termsOfOnePlaceTheLeast() {
        bad("sender at 200 bits 2;", 1, 0);
        bad(senders(11), 1, 0);
        bad(noises(11), 1, 0);
        behind(senders(10) + "channel", 1, 190);
        behind(Due.noise(3, "one") + "noise at 3,", 2, 18 + 9);
    }

    static void termsPlaceIsATokensFirstByte() {
        bad("   nothing", 1, 3);
        bad("channel  \n law   99", 2, 17);
        bad("channel law 0 slots    0201", 2, 23);
        behind("\n\nsender at 5 bits  0123 ;", 2, 20);
        behind("  " + senders(10) + "  sender", 3, 194);
    }

    static void termsPlaceOfTheEnd() {
        bad("channel", 1, 7);
        bad("channel ", 1, 8);
        bad("channel   \n", 1, 11);
        bad("channel law 0 slots 5 skips 0 window 1", 1, 38);
        bad(" ".repeat(493) + "channel", 1, 500);
        bad("channel" + " ".repeat(493), 1, 500);
    }

    // ---- "1 a TOKEN that is none, or can't stand there (channel behind the first LINE, another word ahead of it)"

    static void termsChannelIsTheFirstLineAndNoOther() {
        behind("channel", 1, 0);
        behind(HEAD, 1, 0);
        behind(Due.sender(0, "0") + "channel", 1, 19);
        for (String first : new String[] {"sender", "noise", "law", "slots", "at", "none", ";", "0", "channels", "chanel"}) {
            bad(first + " law 0 slots 5 skips 0 window 1;", 1, 0);
        }
    }

    /** Each token of each kind of line in turn is left out; the next one can't stand at its place. */
    static void termsEachTokenAtItsPlace() {
        String[][] lines = {
            {"channel", "law", "0", "slots", "5", "skips", "0", "window", "1", ";"},
            {"sender", "at", "0", "bits", "1", ";"},
            {"noise", "at", "0", "as", "one", ";"}};
        for (int line = 0; line < 3; line++) {
            String head = line == 0 ? "" : HEAD;
            for (int gone = 0; gone < lines[line].length; gone++) {
                String text = head;
                int place = 0;
                for (int i = 0; i < lines[line].length; i++) {
                    if (i == gone) place = text.length();
                    else text += lines[line][i] + " ";
                }
                bad(text, 1, place);
            }
        }
    }

    static void termsNoSignMoreThanOne() {
        behind(";", 1, 0);
        bad(HEAD.replace(";", ";;"), 1, 39);
        bad(HEAD.replace(";", " ; ;"), 1, 41);
        bad("channel;", 1, 7);
    }

    // ---- "TOKENS, blanks (32, 10) aside, the longest: words (a .. z), numbers (digits), the sign ;"

    static void termsBlanksAre32And10Alone() {
        ok(" \n" + HEAD.replace(" ", "\n \n") + "\n ", 1);
        for (int c = 0; c < 256; c++) {
            if (c == 32 || c == 10) continue;
            if (c >= '0' && c <= '9' || c >= 'a' && c <= 'z' || c == ';') continue;
            bad("channel law 0" + (char) c, 1, 13);
            bad("channel" + (char) c + "law 0", 1, 7);
            bad((char) c + HEAD, 1, 0);
            behind("" + (char) c, 1, 0);
        }
    }

    /** A letter more makes another word of it; what is no letter ends it. */
    static void termsWordsAreOfAToZ() {
        for (char c = 'a'; c <= 'z'; c++) {
            bad("channel" + c, 1, 0);
            bad(c + "channel", 1, 0);
        }
        bad("channel`", 1, 7);
        bad("channel{", 1, 7);
        bad("channel@", 1, 7);
        bad("channelA", 1, 7);
        bad("channelZ", 1, 7);
    }

    /** Every word of every line with one of its letters another one: it can't stand there. */
    static void termsAWordIsAllItsLetters() {
        String text = "channel law 0 slots 5 skips 0 window 1; sender at 0 bits 0; noise at 0 as one; noise at 1 as none; noise at 2 as many;";
        int first = 0;
        for (int i = 0; i < text.length(); i++) {
            if (text.charAt(i) < 'a' || text.charAt(i) > 'z') {
                first = i + 1;
                continue;
            }
            char other = text.charAt(i) == 'q' ? 'r' : 'q';
            bad(text.substring(0, i) + other + text.substring(i + 1), 1, first);
        }
        ok(text, 5);
    }

    static void termsNumbersAreOfDigits() {
        for (char c = '0'; c <= '9'; c++) bad("channel law 4" + c, 2, 12);
        bad("channel law 3/", 1, 13);
        bad("channel law 3:", 1, 13);
        DUE.is("9 is a digit", ok("channel law 0 slots 99 skips 9 window 19;", 1).count(1), 99);
    }

    static void termsTheLongest() {
        ok("channel law0slots5skips0window1;sender at0bits0;noise at0as one;", 3);
        bad("channellaw 0", 1, 0);
        bad("channel lawslots", 1, 8);
        bad("channel law 0 0", 1, 14);
        bad("chan nel", 1, 0);
        behind("sender at 0 bits 0 1;", 1, 19);
        behind("noise at 1 9 as one;", 1, 11);
    }

    // ---- TOKENS that run up to the end, blanks alone, an empty TAPE

    static void termsTokensThatRunUpToTheEnd() {
        bad("channe", 1, 0);
        bad("channel", 1, 7);
        bad("channel la", 1, 8);
        bad("channel law", 1, 11);
        bad("channel law 4", 2, 12);
        bad("channel law 3", 1, 13);
        bad("channel law 0 slots 200", 1, 23);
        bad("channel law 0 slots 201", 2, 20);
        behind("sende", 1, 0);
        behind("sender", 1, 6);
        behind("sender at 0 bits 000000000000", 1, 29);
        behind("sender at 0 bits 0000000000000", 2, 17);
        behind("noise at 0 as man", 1, 14);
        behind("noise at 0 as many", 1, 18);
        behind("x", 1, 0);
        behind(",", 1, 0);
    }

    static void termsATextOf500Bytes() {
        String full = HEAD + senders(10) + noises(10);
        ok(full + " ".repeat(500 - full.length()), 21);
        bad(full + " ".repeat(499 - full.length()) + "x", 1, 499);
        ok(HEAD.substring(0, 38) + " ".repeat(461) + ";", 1);
        bad("channel law " + "0".repeat(488), 1, 500);
    }

    static void termsBlanksAlone() {
        for (String blanks : new String[] {" ", "\n", " \n \n", " ".repeat(500)}) {
            SplitChannel x = ok(blanks, 0);
            DUE.row("no channel", new long[] {x.all(), x.count(7), x.count(1)}, -2, 0, 0);
        }
    }

    static void termsAnEmptyTape() {
        SplitChannel x = new SplitChannel();
        DUE.row("empty", new long[] {x.channel(), x.fault(0), x.fault(1), x.all()}, 0, 0, -1, -2);
        x = Due.of(HEAD);
        DUE.row("in place of one", new long[] {x.all(), x.channel(), x.all(), x.count(1)}, 0, 0, -2, 0);
    }
}
