/** Promises 4 to 7 and 25's text: channel, fault, count, and what the lines told. */
public final class TextTest {
    private static final Due DUE = new Due();
    private static final String HEAD = "channel law 0 slots 5 skips 0 window 1;";

    public static void main(String[] args) {
        sound();
        tokens();
        places();
        bounds();
        senders();
        noises();
        elevenths();
        staysByFault();
        counts();
        DUE.close();
    }

    private static void ok(String text, int lines) {
        SplitChannel x = new SplitChannel();
        DUE.is("channel of " + text, Due.tell(x, text), lines);
        DUE.row("no fault of " + text, new long[] {x.fault(0), x.fault(1), x.count(7)}, 0, -1, lines);
    }

    private static void bad(String text, int fault, int place) {
        SplitChannel x = new SplitChannel();
        DUE.is("channel of " + text, Due.tell(x, text), -4);
        DUE.row("fault of " + text, new long[] {x.fault(0), x.fault(1), x.fault(2), x.fault(-1), x.count(7)},
            fault, place, -1, -1, 0);
    }

    private static void behind(String text, int fault, int place) {
        bad(HEAD + text, fault, HEAD.length() + place);
    }

    private static void sound() {
        ok("", 0);
        ok(" \n  ", 0);
        ok(HEAD, 1);
        ok("\n channel  law\n0 slots 5 skips 0 window 1 ; ", 1);
        ok("channel law0slots5skips0window1;sender at0bits0;noise at3as one;", 3);
        ok("channel law 003 slots 00200 skips 0000000009 window 00000000000000000020;", 1);
        ok(HEAD + "noise at 3 as many;sender at 199 bits 010101010101;noise at 0 as none;", 4);
    }

    private static void tokens() {
        bad("channel\tlaw 0", 1, 7);
        bad("channel\rlaw 0", 1, 7);
        bad("channel law 0, slots", 1, 13);
        bad("Channel", 1, 0);
        bad("channeL", 1, 0);
        bad("channe`", 1, 0);
        bad("channel{", 1, 7);
        bad("channel law /", 1, 12);
        bad("channel law :", 1, 12);
        bad("channel law -1", 1, 12);
        bad("channel law 0\u00e9", 1, 13);
        bad("channel law 0\u0000", 1, 13);
        bad("channels", 1, 0);
        bad("channelz", 1, 0);
        bad("channela", 1, 0);
        bad("channel law 09 slots", 2, 12);
        bad("channel lawslots", 1, 8);
    }

    private static void places() {
        bad("channel", 1, 7);
        bad("channel \n ", 1, 10);
        bad("channel law", 1, 11);
        bad("channel law law", 1, 12);
        bad("channel law ;", 1, 12);
        bad("channel 0", 1, 8);
        bad("channel law 0 1", 1, 14);
        bad("channel law 0 slots 5 skips 0 window 1", 1, 38);
        bad("channel law 0 slots 5 skips 0 window 1 sender", 1, 39);
        bad(";", 1, 0);
        bad("  5", 1, 2);
        bad("sender at 0 bits 0;", 1, 0);
        bad("noise at 0 as one;", 1, 0);
        behind("channel", 1, 0);
        behind(";", 1, 0);
        behind(" 7", 1, 1);
        behind("listener", 1, 0);
        behind("law", 1, 0);
    }

    private static void bounds() {
        bad("channel law 4 slots 0", 2, 12);
        bad("channel law 3 slots 0 skips 10", 2, 20);
        bad("channel law 3 slots 201", 2, 20);
        bad("channel law 3 slots 200 skips 10", 2, 30);
        bad("channel law 3 slots 200 skips 9 window 0", 2, 39);
        bad("channel law 3 slots 200 skips 9 window 21", 2, 39);
        bad("channel law 4294967296", 2, 12);
        bad("channel law 18446744073709551616 slots", 2, 12);
        bad("channel law 0 slots 99999999999999999999999999999999999999999999", 2, 20);
    }

    private static void senders() {
        behind("sender at 0 bits 0", 1, 18);
        behind("sender at 0 bits 0,", 1, 18);
        behind("sender at 0 bits 0 1;", 1, 19);
        behind("sender 0", 1, 7);
        behind("sender at x", 1, 10);
        behind("sender at 200 bits 2;", 2, 10);
        behind("sender at 0 as", 1, 12);
        behind("sender at 0 bits one;", 1, 17);
        behind("sender at 0 bits;", 1, 16);
        behind("sender at 0 bits 2;", 2, 17);
        behind("sender at 0 bits 0012;", 2, 17);
        behind("sender at 0 bits 0000000000000;", 2, 17);
        SplitChannel x = Due.of(HEAD + "sender at 0 bits 0;sender at 199 bits 100000000001;sender at 7 bits 01;");
        DUE.row("sender 1", new long[] {x.sender(1, 0), x.sender(1, 1), x.sender(1, 2), x.sender(1, 3),
            x.sender(1, 12), x.sender(1, 13), x.sender(1, 14), x.sender(1, -1)}, 199, 12, 1, 0, 0, 1, -2, -2);
        DUE.row("sender 2", new long[] {x.sender(2, 0), x.sender(2, 1), x.sender(2, 2), x.sender(2, 3),
            x.sender(2, 4), x.sender(2, 13), x.sender(2, 14)}, 7, 2, 0, 1, -1, -1, -2);
        DUE.row("no such", new long[] {x.sender(3, 0), x.sender(-1, 0), x.sender(Integer.MAX_VALUE, 3),
            x.sender(Integer.MIN_VALUE, 3), x.sender(0, Integer.MIN_VALUE)}, -2, -2, -2, -2, -2);
    }

    private static void noises() {
        behind("noise at 200 as one;", 2, 9);
        behind("noise at 3 bits", 1, 11);
        behind("noise at 3 as two;", 1, 14);
        behind("noise at 3 as 1;", 1, 14);
        behind("noise at 3 as ones;", 1, 14);
        behind("noise at 3 as one", 1, 17);
        behind("noise at 3 as one;noise at 003 as one;", 2, 27);
        behind("noise at 3 as one;noise at 3", 2, 27);
        SplitChannel x = Due.of(HEAD + "noise at 199 as many;noise at 0 as none;noise at 4 as one;");
        DUE.row("noises", new long[] {x.noise(0, 0), x.noise(0, 1), x.noise(1, 0), x.noise(1, 1), x.noise(2, 0),
            x.noise(2, 1)}, 199, 2, 0, 0, 4, 1);
        DUE.row("no such", new long[] {x.noise(3, 0), x.noise(-1, 0), x.noise(0, 2), x.noise(0, -1)}, -2, -2, -2, -2);
    }

    private static void elevenths() {
        StringBuilder ten = new StringBuilder();
        for (int i = 0; i < 10; i++) ten.append("sender at 0 bits 0;");
        ok(HEAD + ten, 11);
        behind(ten + "sender", 3, 190);
        behind(ten + "senders", 1, 190);
        behind(ten + " sender at 200", 3, 191);
        StringBuilder loud = new StringBuilder();
        for (int i = 0; i < 10; i++) loud.append("noise at ").append(i).append(" as one;");
        ok(HEAD + loud, 11);
        behind(loud + "noise at 3 as one;", 3, 180);
        ok(HEAD + loud + "sender at 3 bits 1;", 12);
    }

    private static void staysByFault() {
        SplitChannel x = Due.of("channel law 1 slots 9 skips 2 window 3;sender at 0 bits 0;noise at 2 as one;");
        x.add(1, 1, 1);
        x.rule(2);
        DUE.is("fault", Due.tell(x, "channel law 0 slots 7 skips 1 window 1;sender at 0 bits 1;sender at 0 bits 2;"), -4);
        DUE.row("count", new long[] {x.count(0), x.count(1), x.count(2), x.count(3), x.count(4), x.count(5),
            x.count(6), x.count(7), x.count(8)}, 2, 9, 2, 3, 2, 1, 2, 3, 0);
        DUE.is("fault(1)", x.fault(1), 75);
        DUE.row("run", new long[] {x.all(), x.delivered(0), x.delivered(1), x.undo()}, 2, 0, 1, 1);
        DUE.is("another", Due.tell(x, HEAD), 1);
        DUE.row("count", new long[] {x.count(0), x.count(1), x.count(2), x.count(3), x.count(4), x.count(5),
            x.count(6), x.count(7), x.fault(0), x.fault(1), x.undo()}, 0, 5, 0, 1, 0, 0, 0, 1, 0, -1, -5);
        DUE.is("none", Due.tell(x, "\n"), 0);
        for (int i = 0; i <= 8; i++) DUE.is("count without a channel", x.count(i), 0);
        DUE.row("none then", new long[] {x.all(), x.slot(0, 0), x.sender(0, 0), x.undo()}, -2, -2, -2, -2);
    }

    private static void counts() {
        SplitChannel x = Due.of("channel law 3 slots 200 skips 9 window 20;sender at 0 bits 0;noise at 2 as one;");
        x.add(1, 1, 1);
        x.disturb(9, 1);
        x.rule(1);
        x.feed(0, 0, 0, 0, 0);
        DUE.row("count", new long[] {x.count(0), x.count(1), x.count(2), x.count(3), x.count(4), x.count(5),
            x.count(6), x.count(7), x.count(8)}, 1, 200, 9, 20, 2, 2, 3, 3, 20);
        DUE.row("others", new long[] {x.count(9), x.count(-1), x.count(Integer.MIN_VALUE), x.count(Integer.MAX_VALUE)},
            -1, -1, -1, -1);
    }
}
