import java.math.BigInteger;
import java.util.ArrayDeque;
import java.util.ArrayList;
import java.util.Deque;
import java.util.List;
import java.util.TreeMap;

/** The document told once more, slowly and with the library: what answers of SplitChannel are compared with. */
final class Model {
    record Sender(int number, int comes, String bits) { }

    record State(int law, int slots, int skips, int window, List<Sender> senders, List<int[]> noises) {
        State with(int otherLaw) {
            return new State(otherLaw, slots, skips, window, senders, noises);
        }

        State more(Sender s) {
            List<Sender> all = new ArrayList<>(senders);
            all.add(s);
            return new State(law, slots, skips, window, all, noises);
        }

        State more(int[] noise) {
            List<int[]> all = new ArrayList<>(noises);
            all.add(noise);
            return new State(law, slots, skips, window, senders, all);
        }

        State lessNoise(int i) {
            List<int[]> all = new ArrayList<>(noises);
            all.remove(i);
            return new State(law, slots, skips, window, senders, all);
        }

        State lessSender(int i) {
            List<Sender> all = new ArrayList<>(senders);
            all.remove(i);
            return new State(law, slots, skips, window, all, noises);
        }
    }

    static final class Group {
        final List<Sender> members = new ArrayList<>();
        int a;
        int b;
    }

    static final class Epoch {
        int first;
        int last = -1;
        int who;
    }

    static final class Run {
        final State s;
        final List<List<Integer>> sent = new ArrayList<>();
        final int[] heard;
        final int[] got;
        final int[] depth;
        final int[] skipped;
        final TreeMap<Integer, Integer> deliveredAt = new TreeMap<>();
        final List<Integer> order = new ArrayList<>();
        final int[] taken = new int[10];
        final List<Epoch> epochs = new ArrayList<>();

        Run(State s) {
            this.s = s;
            heard = new int[s.slots()];
            got = new int[s.slots()];
            depth = new int[s.slots()];
            skipped = new int[s.slots()];
            if (s.law() == 2) byCounters(); else byEpochs();
        }

        boolean waits(Sender x, int t) {
            return x.comes() <= t && !deliveredAt.containsKey(x.number());
        }

        int bit(Sender x) {
            return x.bits().charAt(taken[x.number()]++ % x.bits().length()) - '0';
        }

        int hear(int t, List<Sender> group) {
            List<Integer> who = new ArrayList<>();
            for (Sender x : group) who.add(x.number());
            sent.add(who);
            heard[t] = Math.min(who.size(), 2);
            for (int[] n : s.noises()) if (n[0] == t) heard[t] = n[1];
            got[t] = -1;
            if (heard[t] == 1 && who.size() == 1) {
                got[t] = who.get(0);
                deliveredAt.put(who.get(0), t);
                order.add(who.get(0));
            }
            return heard[t];
        }

        void byEpochs() {
            Deque<Group> groups = new ArrayDeque<>();
            Epoch epoch = null;
            Group firstOfSplit = null;
            int row = 0;
            int edge = 0;
            List<Sender> inWindows = new ArrayList<>();
            for (int t = 0; t < s.slots(); t++) {
                if (groups.isEmpty()) {
                    Group g = new Group();
                    g.a = edge;
                    g.b = Math.min(edge + 16 * s.window(), 16 * t + 16);
                    for (Sender x : s.senders()) {
                        int moment = 16 * x.comes() + x.number();
                        if (waits(x, t) && (s.law() != 3 || moment >= g.a && moment < g.b)) g.members.add(x);
                    }
                    edge = g.b;
                    inWindows.addAll(g.members);
                    epoch = new Epoch();
                    epoch.first = t;
                    for (Sender x : g.members) epoch.who |= 1 << x.number();
                    if (epoch.who != 0) epochs.add(epoch);
                    groups.push(g);
                }
                Group sending = groups.pop();
                int h = hear(t, sending.members);
                if (h == 2) {
                    firstOfSplit = split(sending, groups);
                    row = 0;
                } else if (h == 0 && sending == firstOfSplit && s.law() != 0 && row < s.skips()) {
                    firstOfSplit = split(groups.pop(), groups);
                    row++;
                    skipped[t] = 1;
                }
                depth[t] = groups.size();
                if (groups.isEmpty()) {
                    epoch.last = t;
                    for (Sender x : inWindows) {
                        if (waits(x, t)) edge = Math.min(edge, 16 * x.comes() + x.number());
                    }
                }
            }
        }

        Group split(Group g, Deque<Group> groups) {
            Group one = new Group();
            Group two = new Group();
            int m = g.a + (g.b - g.a) / 2;
            one.a = g.a;
            one.b = m;
            two.a = m;
            two.b = g.b;
            for (Sender x : g.members) {
                boolean first = s.law() == 3 ? 16 * x.comes() + x.number() < m : bit(x) == 0;
                (first ? one : two).members.add(x);
            }
            groups.push(two);
            groups.push(one);
            return one;
        }

        void byCounters() {
            TreeMap<Integer, Integer> counter = new TreeMap<>();
            for (int t = 0; t < s.slots(); t++) {
                List<Sender> here = new ArrayList<>();
                List<Sender> sending = new ArrayList<>();
                for (Sender x : s.senders()) {
                    if (!waits(x, t)) continue;
                    here.add(x);
                    counter.putIfAbsent(x.number(), 0);
                    if (counter.get(x.number()) == 0) sending.add(x);
                }
                int h = hear(t, sending);
                for (Sender x : here) {
                    int c = counter.get(x.number());
                    if (h == 2) counter.put(x.number(), sending.contains(x) ? bit(x) : c + 1);
                    else if (!sending.contains(x)) counter.put(x.number(), c - 1);
                }
                for (Sender x : here) {
                    if (waits(x, t)) depth[t] = Math.max(depth[t], counter.get(x.number()) + 1);
                }
            }
        }

        int done() {
            int n = s.senders().size();
            return n == 0 || order.size() < n ? -1 : deliveredAt.get(order.get(n - 1));
        }

        int collided() {
            int sum = 0;
            for (List<Integer> who : sent) if (who.size() > 1) sum++;
            return sum;
        }

        int skips() {
            int sum = 0;
            for (int k : skipped) sum += k;
            return sum;
        }
    }

    private byte[] tape = new byte[0];
    private int fault = 0;
    private int place = -1;
    private int lines = 0;
    /** The told state first, then one more behind each act; empty without a channel. */
    private final List<State> states = new ArrayList<>();
    private Run run;

    int feed(int a, int b, int c, int d, int e) {
        if (tape.length + 20 > 500) return -1;
        byte[] longer = java.util.Arrays.copyOf(tape, tape.length + 20);
        java.nio.ByteBuffer.wrap(longer, tape.length, 20).putInt(a).putInt(b).putInt(c).putInt(d).putInt(e);
        tape = longer;
        return tape.length;
    }

    int end(int n) {
        if (n < 0 || n > tape.length) return -1;
        tape = java.util.Arrays.copyOf(tape, n);
        return n;
    }

    int channel() {
        String text = new String(tape, java.nio.charset.StandardCharsets.ISO_8859_1);
        tape = new byte[0];
        Text read = new Text(text);
        fault = read.fault;
        place = read.place;
        if (fault != 0) return -4;
        states.clear();
        lines = read.lines;
        if (lines > 0) states.add(read.state);
        refresh();
        return lines;
    }

    private int refresh() {
        run = states.isEmpty() ? null : new Run(state());
        return run == null ? 0 : run.order.size();
    }

    private State state() {
        return states.get(states.size() - 1);
    }

    /** What the text tells, or its first fault. */
    static final class Text {
        int fault = 0;
        int place = -1;
        int lines = 0;
        State state;
        private final List<String> tokens = new ArrayList<>();
        private final List<Integer> places = new ArrayList<>();

        Text(String text) {
            java.util.regex.Matcher m = java.util.regex.Pattern.compile("[a-z]+|[0-9]+|[^ \n]", java.util.regex.Pattern.DOTALL).matcher(text);
            while (m.find()) {
                tokens.add(m.group());
                places.add(m.start());
            }
            tokens.add("");
            places.add(text.length());
            int[] head = new int[4];
            List<Sender> senders = new ArrayList<>();
            List<int[]> noises = new ArrayList<>();
            int i = 0;
            while (fault == 0 && !tokens.get(i).isEmpty()) {
                String word = tokens.get(i);
                String[] form;
                if (lines == 0 && word.equals("channel")) {
                    form = new String[] {"law", "#0-3", "slots", "#1-200", "skips", "#0-9", "window", "#1-20", ";"};
                } else if (lines > 0 && word.equals("sender")) {
                    form = new String[] {"at", "#0-199", "bits", "bits", ";"};
                    if (senders.size() == 10) fail(3, i);
                } else if (lines > 0 && word.equals("noise")) {
                    form = new String[] {"at", "#0-199", "as", "how", ";"};
                    if (noises.size() == 10) fail(3, i);
                } else {
                    fail(1, i);
                    return;
                }
                i++;
                List<String> said = new ArrayList<>();
                for (int f = 0; f < form.length && fault == 0; f++, i++) {
                    String token = tokens.get(i);
                    boolean digits = token.matches("[0-9]+");
                    if (form[f].startsWith("#")) {
                        String[] bounds = form[f].substring(1).split("-");
                        if (!digits) fail(1, i);
                        else if (new BigInteger(token).compareTo(new BigInteger(bounds[0])) < 0
                            || new BigInteger(token).compareTo(new BigInteger(bounds[1])) > 0) fail(2, i);
                        else if (word.equals("noise")) {
                            for (int[] n : noises) if (n[0] == Integer.parseInt(token)) fail(2, i);
                        }
                        said.add(token);
                    } else if (form[f].equals("bits") && f == 3) {
                        if (!digits) fail(1, i);
                        else if (!token.matches("[01]{1,12}")) fail(2, i);
                        said.add(token);
                    } else if (form[f].equals("how")) {
                        if (!token.matches("none|one|many")) fail(1, i);
                        said.add(token);
                    } else if (!token.equals(form[f])) {
                        fail(1, i);
                    }
                }
                if (fault != 0) return;
                if (word.equals("channel")) for (int k = 0; k < 4; k++) head[k] = Integer.parseInt(said.get(k));
                if (word.equals("sender")) senders.add(new Sender(senders.size(), Integer.parseInt(said.get(0)), said.get(1)));
                if (word.equals("noise")) noises.add(new int[] {Integer.parseInt(said.get(0)), List.of("none", "one", "many").indexOf(said.get(1))});
                lines++;
            }
            state = new State(head[0], head[1], head[2], head[3], senders, noises);
        }

        private void fail(int why, int token) {
            if (fault != 0) return;
            fault = why;
            place = places.get(token);
        }
    }

    // ---- questions

    private boolean none() {
        return states.isEmpty();
    }

    private boolean noSender(int i) {
        return none() || i < 0 || i >= state().senders().size();
    }

    private boolean noNoise(int i) {
        return none() || i < 0 || i >= state().noises().size();
    }

    private boolean noSlot(int t) {
        return none() || t < 0 || t >= state().slots();
    }

    int fault(int what) {
        return what == 0 ? fault : what == 1 ? place : -1;
    }

    int count(int what) {
        if (what == 8) return tape.length;
        if (what < 0 || what > 8) return -1;
        if (none()) return 0;
        State s = state();
        return new int[] {s.law(), s.slots(), s.skips(), s.window(), s.senders().size(), s.noises().size(), states.size() - 1, lines}[what];
    }

    int sender(int i, int what) {
        if (noSender(i) || what < 0 || what > 13) return -2;
        Sender x = state().senders().get(i);
        if (what == 0) return x.comes();
        if (what == 1) return x.bits().length();
        return what - 2 < x.bits().length() ? x.bits().charAt(what - 2) - '0' : -1;
    }

    int slot(int t, int what) {
        if (noSlot(t) || what < 0 || what > 4) return -2;
        return new int[] {run.sent.get(t).size(), run.heard[t], run.got[t], run.depth[t], run.skipped[t]}[what];
    }

    int sends(int t, int i) {
        if (noSlot(t) || noSender(i)) return -2;
        return run.sent.get(t).contains(i) ? 1 : 0;
    }

    int delivered(int i) {
        return noSender(i) ? -2 : run.deliveredAt.getOrDefault(i, -1);
    }

    int tries(int i) {
        if (noSender(i)) return -2;
        int sum = 0;
        for (List<Integer> who : run.sent) if (who.contains(i)) sum++;
        return sum;
    }

    int taken(int i) {
        return noSender(i) ? -2 : run.taken[i];
    }

    int order(int k) {
        if (none() || k < 0) return -2;
        return k < run.order.size() ? run.order.get(k) : -1;
    }

    int all() {
        return none() ? -2 : run.order.size();
    }

    int done() {
        return none() ? -2 : run.done();
    }

    int heard(int what) {
        if (none() || what < 0 || what > 2) return -2;
        int sum = 0;
        for (int h : run.heard) if (h == what) sum++;
        return sum;
    }

    int collided() {
        return none() ? -2 : run.collided();
    }

    int skips() {
        return none() ? -2 : run.skips();
    }

    int deepest() {
        if (none()) return -2;
        int most = 0;
        for (int d : run.depth) most = Math.max(most, d);
        return most;
    }

    int epochs() {
        return none() ? -2 : run.epochs.size();
    }

    int epoch(int i, int what) {
        if (none() || i < 0 || what < 0 || what > 2) return -2;
        if (i >= run.epochs.size()) return -1;
        Epoch e = run.epochs.get(i);
        return what == 0 ? e.first : what == 1 ? e.last : e.who;
    }

    int behind(int i) {
        if (noSender(i)) return -2;
        int sum = 0;
        int last = run.deliveredAt.getOrDefault(i, state().slots() - 1);
        for (int other : run.order) {
            int t = run.deliveredAt.get(other);
            if (other != i && t >= state().senders().get(i).comes() && t <= last) sum++;
        }
        return sum;
    }

    int by(int law, int what) {
        if (none() || law < 0 || law > 3 || what < 0 || what > 3) return -2;
        Run r = new Run(state().with(law));
        return new int[] {r.done(), r.order.size(), r.collided(), r.skips()}[what];
    }

    int without(int i) {
        return noNoise(i) ? -99 : new Run(state().lessNoise(i)).order.size() - run.order.size();
    }

    int noise(int i, int what) {
        return noNoise(i) || what < 0 || what > 1 ? -2 : state().noises().get(i)[what];
    }

    int alone(int i) {
        return noSender(i) ? -2 : new Run(state().lessSender(i)).order.size();
    }

    int worst() {
        if (none()) return -2;
        int worst = -1;
        for (int i = 0; i < state().noises().size(); i++) {
            if (without(i) > (worst < 0 ? 0 : without(worst))) worst = i;
        }
        return worst;
    }

    // ---- acts

    int add(int at, int bits, int n) {
        if (none() || at < 0 || at > 199 || n < 1 || n > 12 || bits < 0 || bits > (1 << n) - 1) return -2;
        if (state().senders().size() == 10 || states.size() == 21) return -5;
        StringBuilder text = new StringBuilder(Integer.toBinaryString(bits));
        while (text.length() < n) text.insert(0, '0');
        states.add(state().more(new Sender(state().senders().size(), at, text.toString())));
        return refresh();
    }

    int disturb(int slot, int as) {
        if (none() || slot < 0 || slot > 199 || as < 0 || as > 2) return -2;
        for (int[] n : state().noises()) if (n[0] == slot) return -5;
        if (state().noises().size() == 10 || states.size() == 21) return -5;
        states.add(state().more(new int[] {slot, as}));
        return refresh();
    }

    int rule(int law) {
        if (none() || law < 0 || law > 3) return -2;
        if (state().law() == law || states.size() == 21) return -5;
        states.add(state().with(law));
        return refresh();
    }

    int undo() {
        if (none()) return -2;
        if (states.size() == 1) return -5;
        states.remove(states.size() - 1);
        refresh();
        return states.size() - 1;
    }

    int anew() {
        if (none()) return -2;
        int were = states.size() - 1;
        while (states.size() > 1) states.remove(states.size() - 1);
        refresh();
        return were;
    }
}
