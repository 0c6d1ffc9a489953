import java.util.Arrays;

/** One channel that many share: collisions are split by laws, all hear none, one or many. */
public final class SplitChannel {
    public static final int NONE = -1;

    private static final int NO_SUCH = -2;
    private static final int FAULTY = -4;
    private static final int REFUSED = -5;
    private static final int NO_SUCH_NOISE = -99;

    private static final int MOST_BYTES = 500;
    private static final int MOST_SLOTS = 200;
    private static final int MOST_SENDERS = 10;
    private static final int MOST_NOISES = 10;
    private static final int MOST_BITS = 12;
    private static final int MOST_ACTS = 20;
    private static final int MOST_LAW = 3;

    private static final int HEARD_NONE = 0;
    private static final int HEARD_ONE = 1;
    private static final int HEARD_MANY = 2;

    private static final int LAW_SKIPPING = 1;
    private static final int LAW_COUNTERS = 2;
    private static final int LAW_TIME = 3;

    private final Reader reader;
    private final Tape tape;
    private final Plan draft;
    private final Play play;
    private final Plan plan;
    private final Course now;
    private final Course other;
    private final Acts acts;
    private final Means means;

    public SplitChannel() {
        reader = new Reader();
        tape = reader.tape;
        draft = reader.draft;
        play = new Play();
        plan = play.plan;
        now = play.course;
        other = new Course();
        acts = new Acts();
        means = new Means();
    }

    // ---- the tape and the channel it tells

    public int feed(int a, int b, int c, int d, int e) {
        if (tape.length + 20 > MOST_BYTES) {
            return NONE;
        }
        tape.append(a);
        tape.append(b);
        tape.append(c);
        tape.append(d);
        tape.append(e);
        return tape.length;
    }

    public int end(int n) {
        if (n < 0 || n > tape.length) {
            return NONE;
        }
        tape.length = n;
        return n;
    }

    public int channel() {
        boolean sound = reader.read();
        tape.length = 0;
        if (!sound) {
            return FAULTY;
        }
        plan.become(draft);
        acts.made = 0;
        play.run(now, plan.law, NONE, NONE);
        return plan.lines;
    }

    public int fault(int what) {
        if (what == 0) {
            return reader.fault;
        }
        return what == 1 ? reader.place : NONE;
    }

    public int count(int what) {
        switch (what) {
            case 0: return plan.law;
            case 1: return plan.slots;
            case 2: return plan.skips;
            case 3: return plan.window;
            case 4: return plan.senders;
            case 5: return plan.noises;
            case 6: return acts.made;
            case 7: return plan.lines;
            case 8: return tape.length;
            default: return NONE;
        }
    }

    // ---- what the channel's run was

    public int sender(int sender, int what) {
        if (!plan.hasSender(sender) || what < 0 || what > MOST_BITS + 1) {
            return NO_SUCH;
        }
        if (what == 0) {
            return at(plan.comes, sender);
        }
        int many = at(plan.bitCounts, sender);
        if (what == 1) {
            return many;
        }
        return what - 2 < many ? plan.bit(sender, what - 2) : NONE;
    }

    public int slot(int slot, int what) {
        if (!plan.hasSlot(slot)) {
            return NO_SUCH;
        }
        switch (what) {
            case 0: return Integer.bitCount(at(now.sent, slot));
            case 1: return at(now.heard, slot);
            case 2: return at(now.through, slot);
            case 3: return at(now.depth, slot);
            case 4: return at(now.skipped, slot);
            default: return NO_SUCH;
        }
    }

    public int sends(int slot, int sender) {
        if (!plan.hasSlot(slot) || !plan.hasSender(sender)) {
            return NO_SUCH;
        }
        return at(now.sent, slot) >> sender & 1;
    }

    public int delivered(int sender) {
        return plan.hasSender(sender) ? at(now.slotThrough, sender) : NO_SUCH;
    }

    public int tries(int sender) {
        return plan.hasSender(sender) ? at(now.tried, sender) : NO_SUCH;
    }

    public int taken(int sender) {
        return plan.hasSender(sender) ? at(now.bitsTaken, sender) : NO_SUCH;
    }

    public int order(int k) {
        if (k < 0 || !plan.stands()) {
            return NO_SUCH;
        }
        return k < now.throughCount ? at(now.throughOrder, k) : NONE;
    }

    public int all() {
        return plan.stands() ? now.throughCount : NO_SUCH;
    }

    public int done() {
        return plan.stands() ? now.lastSlot(plan.senders) : NO_SUCH;
    }

    public int heard(int what) {
        if (what < HEARD_NONE || what > HEARD_MANY || !plan.stands()) {
            return NO_SUCH;
        }
        return now.slotsHeard(what, plan.slots);
    }

    public int collided() {
        return plan.stands() ? now.collisions(plan.slots) : NO_SUCH;
    }

    public int skips() {
        return plan.stands() ? now.skipsMade(plan.slots) : NO_SUCH;
    }

    public int deepest() {
        return plan.stands() ? now.greatestDepth(plan.slots) : NO_SUCH;
    }

    public int epochs() {
        return plan.stands() ? now.epochCount : NO_SUCH;
    }

    public int epoch(int epoch, int what) {
        if (epoch < 0 || what < 0 || what > 2 || !plan.stands()) {
            return NO_SUCH;
        }
        if (epoch >= now.epochCount) {
            return NONE;
        }
        switch (what) {
            case 0: return at(now.epochFirst, epoch);
            case 1: return at(now.epochLast, epoch);
            default: return at(now.epochWho, epoch);
        }
    }

    public int behind(int sender) {
        if (!plan.hasSender(sender)) {
            return NO_SUCH;
        }
        int own = at(now.slotThrough, sender);
        int last = own == NONE ? plan.slots - 1 : own;
        int others = 0;
        for (int t = at(plan.comes, sender); t <= last; t++) {
            int through = at(now.through, t);
            if (through != NONE && through != sender) {
                others++;
            }
        }
        return others;
    }

    // ---- what other runs would be

    public int by(int law, int what) {
        if (!isLaw(law) || what < 0 || what > 3 || !plan.stands()) {
            return NO_SUCH;
        }
        play.run(other, law, NONE, NONE);
        switch (what) {
            case 0: return other.lastSlot(plan.senders);
            case 1: return other.throughCount;
            case 2: return other.collisions(plan.slots);
            default: return other.skipsMade(plan.slots);
        }
    }

    public int without(int noise) {
        if (!plan.hasNoise(noise)) {
            return NO_SUCH_NOISE;
        }
        return play.run(other, plan.law, noise, NONE) - now.throughCount;
    }

    public int noise(int noise, int what) {
        if (!plan.hasNoise(noise)) {
            return NO_SUCH;
        }
        switch (what) {
            case 0: return at(plan.noiseSlots, noise);
            case 1: return at(plan.noiseKinds, noise);
            default: return NO_SUCH;
        }
    }

    public int alone(int sender) {
        if (!plan.hasSender(sender)) {
            return NO_SUCH;
        }
        return play.run(other, plan.law, NONE, sender);
    }

    public int worst() {
        if (!plan.stands()) {
            return NO_SUCH;
        }
        int worst = NONE;
        int most = 0;
        for (int i = 0; i < plan.noises; i++) {
            int gain = play.run(other, plan.law, i, NONE) - now.throughCount;
            if (gain > most) {
                most = gain;
                worst = i;
            }
        }
        return worst;
    }

    // ---- exact means and chances

    public long mean(int law, int n, int what) {
        if (!isTreeLaw(law) || n < 0 || n > Means.MOST_EVEN || !isPart(what)) {
            return NO_SUCH;
        }
        means.reckon(law, n, 1, 2);
        return what == 0 ? at(means.above, n) : at(means.below, n);
    }

    public long leaning(int law, int n, int a, int b, int what) {
        if (!isTreeLaw(law) || n < 0 || n > Means.MOST_LEANING || !isPart(what)) {
            return NO_SUCH;
        }
        if (a < 1 || a > 4 || b < 2 || b > 5 || a >= b) {
            return NO_SUCH;
        }
        means.reckon(law, n, a, b);
        return what == 0 ? at(means.above, n) : at(means.below, n);
    }

    public long chance(int law, int n, int s, int what) {
        if (!isTreeLaw(law) || n < 0 || n > Means.MOST_CHANCE || !isPart(what)) {
            return NO_SUCH;
        }
        if (s < 1 || s > Means.MOST_TAKEN) {
            return NO_SUCH;
        }
        means.reckonChance(law, n, s);
        return what == 0 ? means.sumAbove : means.sumBelow;
    }

    public int best(int law) {
        return isTreeLaw(law) ? means.bestCount(law) : NO_SUCH;
    }

    // ---- acts

    public int add(int at, int bits, int n) {
        if (!plan.stands() || at < 0 || at >= MOST_SLOTS || n < 1 || n > MOST_BITS) {
            return NO_SUCH;
        }
        if (bits < 0 || bits >= 1 << n) {
            return NO_SUCH;
        }
        if (plan.senders >= MOST_SENDERS || acts.made >= MOST_ACTS) {
            return REFUSED;
        }
        plan.addSender(at, bits, n);
        acts.note(Acts.SENDER, plan.law);
        return play.run(now, plan.law, NONE, NONE);
    }

    public int disturb(int slot, int as) {
        if (!plan.stands() || slot < 0 || slot >= MOST_SLOTS || as < HEARD_NONE || as > HEARD_MANY) {
            return NO_SUCH;
        }
        if (plan.isNoisy(slot) || plan.noises >= MOST_NOISES || acts.made >= MOST_ACTS) {
            return REFUSED;
        }
        plan.addNoise(slot, as);
        acts.note(Acts.NOISE, plan.law);
        return play.run(now, plan.law, NONE, NONE);
    }

    public int rule(int law) {
        if (!plan.stands() || !isLaw(law)) {
            return NO_SUCH;
        }
        if (plan.law == law || acts.made >= MOST_ACTS) {
            return REFUSED;
        }
        acts.note(Acts.LAW, plan.law);
        plan.law = law;
        return play.run(now, plan.law, NONE, NONE);
    }

    public int undo() {
        if (!plan.stands()) {
            return NO_SUCH;
        }
        if (acts.made == 0) {
            return REFUSED;
        }
        acts.takeBack(plan);
        play.run(now, plan.law, NONE, NONE);
        return acts.made;
    }

    public int anew() {
        if (!plan.stands()) {
            return NO_SUCH;
        }
        int were = acts.made;
        for (int i = 0; i < were; i++) {
            acts.takeBack(plan);
        }
        play.run(now, plan.law, NONE, NONE);
        return were;
    }

    // ---- helpers

    private static boolean isLaw(int law) {
        return law >= 0 && law <= MOST_LAW;
    }

    private static boolean isTreeLaw(int law) {
        return law == 0 || law == LAW_SKIPPING;
    }

    private static boolean isPart(int what) {
        return what == 0 || what == 1;
    }

    private static int at(int[] row, int i) {
        return i >= 0 && i < row.length ? row[i] : 0;
    }

    private static void put(int[] row, int i, int value) {
        if (i >= 0 && i < row.length) {
            row[i] = value;
        }
    }

    private static long at(long[] row, int i) {
        return i >= 0 && i < row.length ? row[i] : 0L;
    }

    private static void put(long[] row, int i, long value) {
        if (i >= 0 && i < row.length) {
            row[i] = value;
        }
    }

    /** The bytes that were fed and not yet read. */
    private static final class Tape {
        final int[] bytes = new int[MOST_BYTES];
        int length;

        void append(int number) {
            for (int shift = 24; shift >= 0; shift -= 8) {
                put(bytes, length, number >> shift & 255);
                length++;
            }
        }
    }

    /** What is told of a channel, with the acts done; without slots there is no channel. */
    private static final class Plan {
        int law;
        int slots;
        int skips;
        int window;
        int lines;
        int senders;
        int noises;
        final int[] comes = new int[MOST_SENDERS];
        final int[] bitCounts = new int[MOST_SENDERS];
        final int[] bits = new int[MOST_SENDERS];
        final int[] noiseSlots = new int[MOST_NOISES];
        final int[] noiseKinds = new int[MOST_NOISES];

        void clear() {
            law = 0;
            slots = 0;
            skips = 0;
            window = 0;
            lines = 0;
            senders = 0;
            noises = 0;
        }

        void become(Plan from) {
            clear();
            for (int i = 0; i < from.senders; i++) {
                addSender(at(from.comes, i), at(from.bits, i), at(from.bitCounts, i));
            }
            for (int i = 0; i < from.noises; i++) {
                addNoise(at(from.noiseSlots, i), at(from.noiseKinds, i));
            }
            law = from.law;
            slots = from.slots;
            skips = from.skips;
            window = from.window;
            lines = from.lines;
        }

        void addSender(int slot, int number, int many) {
            put(comes, senders, slot);
            put(bits, senders, number);
            put(bitCounts, senders, many);
            senders++;
        }

        void addNoise(int slot, int kind) {
            put(noiseSlots, noises, slot);
            put(noiseKinds, noises, kind);
            noises++;
        }

        boolean stands() {
            return slots > 0;
        }

        boolean hasSender(int sender) {
            return sender >= 0 && sender < senders;
        }

        boolean hasNoise(int noise) {
            return noise >= 0 && noise < noises;
        }

        boolean hasSlot(int slot) {
            return slot >= 0 && slot < slots;
        }

        boolean isNoisy(int slot) {
            for (int i = 0; i < noises; i++) {
                if (at(noiseSlots, i) == slot) {
                    return true;
                }
            }
            return false;
        }

        int bit(int sender, int k) {
            return at(bits, sender) >> at(bitCounts, sender) - 1 - k & 1;
        }

        int moment(int sender) {
            return 16 * at(comes, sender) + sender;
        }
    }

    /** The acts done on a plan, so that they can be taken back. */
    private static final class Acts {
        static final int SENDER = 0;
        static final int NOISE = 1;
        static final int LAW = 2;

        final int[] kinds = new int[MOST_ACTS];
        final int[] lawsBefore = new int[MOST_ACTS];
        int made;

        void note(int kind, int lawBefore) {
            put(kinds, made, kind);
            put(lawsBefore, made, lawBefore);
            made++;
        }

        void takeBack(Plan plan) {
            if (made == 0) {
                return;
            }
            made--;
            int kind = at(kinds, made);
            if (kind == SENDER) {
                plan.senders--;
            } else if (kind == NOISE) {
                plan.noises--;
            } else {
                plan.law = at(lawsBefore, made);
            }
        }
    }

    /** Reads the tape's text into a draft, up to its first fault. */
    private static final class Reader {
        static final int END = 0;
        static final int WORD = 1;
        static final int NUMBER = 2;
        static final int SIGN = 3;
        static final int NO_TOKEN = 4;

        static final int MISPLACED = 1;
        static final int UNFIT = 2;
        static final int TOO_MANY = 3;

        /** Above every bound of a number, and far below where an int wraps. */
        static final int HUGE = 1000000;

        final Tape tape = new Tape();
        final Plan draft = new Plan();
        int kind;
        int start;
        int next;
        int value;
        int fault;
        int place = NONE;

        boolean read() {
            draft.clear();
            fault = 0;
            place = NONE;
            next = 0;
            for (int line = 0; line <= MOST_BYTES; line++) {
                step();
                if (kind == END) {
                    return true;
                }
                if (!readLine()) {
                    return false;
                }
                draft.lines++;
            }
            return true;
        }

        boolean readLine() {
            if (isWord("channel")) {
                return draft.lines == 0 ? readChannel() : refuse(MISPLACED);
            }
            if (draft.lines > 0 && isWord("sender")) {
                return readSender();
            }
            if (draft.lines > 0 && isWord("noise")) {
                return readNoise();
            }
            return refuse(MISPLACED);
        }

        boolean readChannel() {
            if (!readWord("law") || !readNumber(0, MOST_LAW)) {
                return false;
            }
            draft.law = value;
            if (!readWord("slots") || !readNumber(1, MOST_SLOTS)) {
                return false;
            }
            draft.slots = value;
            if (!readWord("skips") || !readNumber(0, 9)) {
                return false;
            }
            draft.skips = value;
            if (!readWord("window") || !readNumber(1, 20)) {
                return false;
            }
            draft.window = value;
            return readSign();
        }

        boolean readSender() {
            if (draft.senders >= MOST_SENDERS) {
                return refuse(TOO_MANY);
            }
            if (!readWord("at") || !readNumber(0, MOST_SLOTS - 1)) {
                return false;
            }
            int slot = value;
            if (!readWord("bits") || !readBits()) {
                return false;
            }
            draft.addSender(slot, value, next - start);
            return readSign();
        }

        boolean readNoise() {
            if (draft.noises >= MOST_NOISES) {
                return refuse(TOO_MANY);
            }
            if (!readWord("at") || !readNumber(0, MOST_SLOTS - 1)) {
                return false;
            }
            if (draft.isNoisy(value)) {
                return refuse(UNFIT);
            }
            int slot = value;
            if (!readWord("as") || !readKind()) {
                return false;
            }
            draft.addNoise(slot, value);
            return readSign();
        }

        boolean readWord(String word) {
            step();
            return isWord(word) || refuse(MISPLACED);
        }

        boolean readNumber(int least, int most) {
            step();
            if (kind != NUMBER) {
                return refuse(MISPLACED);
            }
            value = 0;
            for (int i = start; i < next; i++) {
                value = value * 10 + at(tape.bytes, i) - '0';
                if (value > HUGE) {
                    value = HUGE;
                }
            }
            return value >= least && value <= most || refuse(UNFIT);
        }

        boolean readBits() {
            step();
            if (kind != NUMBER) {
                return refuse(MISPLACED);
            }
            if (next - start > MOST_BITS) {
                return refuse(UNFIT);
            }
            value = 0;
            for (int i = start; i < next; i++) {
                int bit = at(tape.bytes, i) - '0';
                if (bit > 1) {
                    return refuse(UNFIT);
                }
                value = value * 2 + bit;
            }
            return true;
        }

        boolean readKind() {
            step();
            if (isWord("none")) {
                value = HEARD_NONE;
            } else if (isWord("one")) {
                value = HEARD_ONE;
            } else if (isWord("many")) {
                value = HEARD_MANY;
            } else {
                return refuse(MISPLACED);
            }
            return true;
        }

        boolean readSign() {
            step();
            return kind == SIGN || refuse(MISPLACED);
        }

        /** Answers false, so that a reader can end with it. */
        boolean refuse(int why) {
            fault = why;
            place = start;
            return false;
        }

        boolean isWord(String word) {
            if (kind != WORD || word.length() != next - start) {
                return false;
            }
            for (int i = 0; i < word.length(); i++) {
                if (word.charAt(i) != at(tape.bytes, start + i)) {
                    return false;
                }
            }
            return true;
        }

        void step() {
            start = next;
            while (start < tape.length && isBlank(at(tape.bytes, start))) {
                start++;
            }
            next = start;
            if (start >= tape.length) {
                kind = END;
                return;
            }
            kind = kindOf(at(tape.bytes, start));
            next++;
            boolean grows = kind == WORD || kind == NUMBER;
            while (grows && next < tape.length && kindOf(at(tape.bytes, next)) == kind) {
                next++;
            }
        }

        static boolean isBlank(int c) {
            return c == 32 || c == 10;
        }

        static int kindOf(int c) {
            if (c >= 'a' && c <= 'z') {
                return WORD;
            }
            if (c >= '0' && c <= '9') {
                return NUMBER;
            }
            return c == ';' ? SIGN : NO_TOKEN;
        }
    }

    /** What came of one run, slot by slot, sender by sender, epoch by epoch. */
    private static final class Course {
        final int[] sent = new int[MOST_SLOTS];
        final int[] heard = new int[MOST_SLOTS];
        final int[] through = new int[MOST_SLOTS];
        final int[] depth = new int[MOST_SLOTS];
        final int[] skipped = new int[MOST_SLOTS];
        final int[] slotThrough = new int[MOST_SENDERS];
        final int[] tried = new int[MOST_SENDERS];
        final int[] bitsTaken = new int[MOST_SENDERS];
        final int[] throughOrder = new int[MOST_SENDERS];
        int throughCount;
        final int[] epochFirst = new int[MOST_SLOTS];
        final int[] epochLast = new int[MOST_SLOTS];
        final int[] epochWho = new int[MOST_SLOTS];
        int epochCount;

        /** A run writes its slots' other rows whole; only these build on what stood before. */
        void clear() {
            Arrays.fill(through, NONE);
            Arrays.fill(skipped, 0);
            Arrays.fill(slotThrough, NONE);
            Arrays.fill(tried, 0);
            Arrays.fill(bitsTaken, 0);
            throughCount = 0;
            epochCount = 0;
        }

        void deliver(int sender, int slot) {
            put(through, slot, sender);
            put(slotThrough, sender, slot);
            put(throughOrder, throughCount, sender);
            throughCount++;
        }

        void openEpoch(int slot, int who) {
            put(epochFirst, epochCount, slot);
            put(epochLast, epochCount, NONE);
            put(epochWho, epochCount, who);
            epochCount++;
        }

        int lastSlot(int senders) {
            if (senders == 0 || throughCount < senders) {
                return NONE;
            }
            return at(slotThrough, at(throughOrder, throughCount - 1));
        }

        int slotsHeard(int what, int slots) {
            int sum = 0;
            for (int t = 0; t < slots; t++) {
                if (at(heard, t) == what) {
                    sum++;
                }
            }
            return sum;
        }

        int collisions(int slots) {
            int sum = 0;
            for (int t = 0; t < slots; t++) {
                if (Integer.bitCount(at(sent, t)) > 1) {
                    sum++;
                }
            }
            return sum;
        }

        int skipsMade(int slots) {
            int sum = 0;
            for (int t = 0; t < slots; t++) {
                sum += at(skipped, t);
            }
            return sum;
        }

        int greatestDepth(int slots) {
            int most = 0;
            for (int t = 0; t < slots; t++) {
                most = Math.max(most, at(depth, t));
            }
            return most;
        }
    }

    /** Groups waiting to send, the last one on top; each has its senders as bits, and its stretch of time. */
    private static final class Stack {
        /** One more than the slots: a slot leaves at most one group more than it found. */
        static final int MOST = MOST_SLOTS + 1;

        final int[] who = new int[MOST];
        final int[] from = new int[MOST];
        final int[] to = new int[MOST];
        int size;

        void push(int senders, int a, int b) {
            put(who, size, senders);
            put(from, size, a);
            put(to, size, b);
            size++;
        }

        void pop() {
            if (size > 0) {
                size--;
            }
        }

        int topWho() {
            return at(who, size - 1);
        }
    }

    /** Plays the plan's slots into a course, by any law, a noise or a sender left out if told. */
    private static final class Play {
        final Plan plan = new Plan();
        final Stack groups = new Stack();
        final int[] counters = new int[MOST_SENDERS];
        Course course = new Course();
        int law;
        int noNoise;
        int noSender;
        /** Senders as bits: come and not delivered; ever in a window. */
        int present;
        int windowed;
        int edge;
        boolean justSplit;
        int skipsInRow;
        boolean epochCounted;

        /** Answers how many are delivered. */
        int run(Course into, int byLaw, int withoutNoise, int withoutSender) {
            course = into;
            law = byLaw;
            noNoise = withoutNoise;
            noSender = withoutSender;
            present = 0;
            windowed = 0;
            edge = 0;
            justSplit = false;
            skipsInRow = 0;
            epochCounted = false;
            groups.size = 0;
            Arrays.fill(counters, 0);
            course.clear();
            for (int t = 0; t < plan.slots; t++) {
                welcome(t);
                if (law == LAW_COUNTERS) {
                    playByCounters(t);
                } else {
                    playByGroups(t);
                }
            }
            return course.throughCount;
        }

        void welcome(int t) {
            for (int i = 0; i < plan.senders; i++) {
                if (at(plan.comes, i) == t && i != noSender) {
                    present |= 1 << i;
                }
            }
        }

        void playByGroups(int t) {
            if (groups.size == 0) {
                beginEpoch(t);
            }
            int who = groups.topWho();
            int heard = listen(t, who);
            if (heard == HEARD_MANY) {
                splitTop();
                skipsInRow = 0;
            } else {
                boolean dooms = heard == HEARD_NONE && justSplit && maySkip();
                groups.pop();
                justSplit = false;
                if (dooms) {
                    splitTop();
                    skipsInRow++;
                    put(course.skipped, t, 1);
                }
            }
            if (groups.size == 0) {
                endEpoch(t);
            }
            put(course.depth, t, groups.size);
        }

        boolean maySkip() {
            return (law == LAW_SKIPPING || law == LAW_TIME) && skipsInRow < plan.skips;
        }

        void beginEpoch(int t) {
            int who = present;
            int from = edge;
            int to = edge;
            if (law == LAW_TIME) {
                to = Math.min(edge + 16 * plan.window, 16 * t + 16);
                who = within(present, from, to);
                windowed |= who;
                edge = to;
            }
            groups.push(who, from, to);
            epochCounted = who != 0;
            if (epochCounted) {
                course.openEpoch(t, who);
            }
        }

        void endEpoch(int t) {
            if (epochCounted) {
                put(course.epochLast, course.epochCount - 1, t);
            }
            int missed = windowed & present;
            for (int i = 0; i < plan.senders && missed >> i != 0; i++) {
                if ((missed >> i & 1) == 1) {
                    edge = Math.min(edge, plan.moment(i));
                }
            }
        }

        int within(int who, int from, int to) {
            int inside = 0;
            for (int i = 0; i < plan.senders && who >> i != 0; i++) {
                int moment = plan.moment(i);
                if ((who >> i & 1) == 1 && moment >= from && moment < to) {
                    inside |= 1 << i;
                }
            }
            return inside;
        }

        void splitTop() {
            int who = groups.topWho();
            int from = at(groups.from, groups.size - 1);
            int to = at(groups.to, groups.size - 1);
            int middle = from + (to - from) / 2;
            int first = law == LAW_TIME ? within(who, from, middle) : takeBits(who);
            groups.pop();
            groups.push(who & ~first, middle, to);
            groups.push(first, from, middle);
            justSplit = true;
        }

        /** Those of the senders whose next bit is 0; each has then taken it. */
        int takeBits(int who) {
            int zeros = 0;
            for (int i = 0; i < plan.senders && who >> i != 0; i++) {
                if ((who >> i & 1) == 1 && nextBit(i) == 0) {
                    zeros |= 1 << i;
                }
            }
            return zeros;
        }

        int nextBit(int sender) {
            int took = at(course.bitsTaken, sender);
            int many = at(plan.bitCounts, sender);
            put(course.bitsTaken, sender, took + 1);
            return many > 0 ? at(plan.bits, sender) >> many - 1 - took % many & 1 : 0;
        }

        /** The senders send: what is heard of it; one that is heard alone is delivered. */
        int listen(int t, int who) {
            int sending = Integer.bitCount(who);
            int heard = heardAt(t, Math.min(sending, HEARD_MANY));
            put(course.sent, t, who);
            put(course.heard, t, heard);
            boolean alone = sending == 1 && heard == HEARD_ONE;
            for (int i = 0; i < plan.senders && who >> i != 0; i++) {
                if ((who >> i & 1) == 1) {
                    put(course.tried, i, at(course.tried, i) + 1);
                    if (alone) {
                        course.deliver(i, t);
                    }
                }
            }
            if (alone) {
                present &= ~who;
            }
            return heard;
        }

        int heardAt(int t, int truth) {
            for (int i = 0; i < plan.noises; i++) {
                if (at(plan.noiseSlots, i) == t && i != noNoise) {
                    return at(plan.noiseKinds, i);
                }
            }
            return truth;
        }

        void playByCounters(int t) {
            int who = 0;
            for (int i = 0; i < plan.senders && present >> i != 0; i++) {
                if ((present >> i & 1) == 1 && at(counters, i) == 0) {
                    who |= 1 << i;
                }
            }
            int heard = listen(t, who);
            int deepest = NONE;
            for (int i = 0; i < plan.senders && present >> i != 0; i++) {
                if ((present >> i & 1) == 1) {
                    put(counters, i, counterBehind(i, (who >> i & 1) == 1, heard == HEARD_MANY));
                    deepest = Math.max(deepest, at(counters, i));
                }
            }
            put(course.depth, t, deepest + 1);
        }

        int counterBehind(int sender, boolean sent, boolean many) {
            int counter = at(counters, sender);
            if (sent) {
                return many ? nextBit(sender) : counter;
            }
            return many ? counter + 1 : counter - 1;
        }
    }

    /** Exact means and chances of splitting, as fractions in lowest terms. */
    private static final class Means {
        static final int MOST_EVEN = 8;
        static final int MOST_LEANING = 5;
        static final int MOST_CHANCE = 3;
        static final int MOST_TAKEN = 12;

        final long[] above = new long[MOST_EVEN + 1];
        final long[] below = new long[MOST_EVEN + 1];
        /** By senders and slots: chances times 8 to the slots, which makes them whole. */
        final long[] ways = new long[(MOST_CHANCE + 1) * (MOST_TAKEN + 1)];
        long sumAbove;
        long sumBelow;

        /** The means of 0 to n senders, a bit being 0 by a chance of a to b. */
        void reckon(int law, int n, int a, int b) {
            for (int i = 0; i <= n; i++) {
                set(1, 1);
                if (i > 1) {
                    reckonSplit(law, i, a, b);
                }
                put(above, i, sumAbove);
                put(below, i, sumBelow);
            }
        }

        /**
         * The mean stands on both sides, as one group may hold all:
         * it is brought to the left and its weight divided away.
         */
        void reckonSplit(int law, int n, int a, int b) {
            long whole = power(b, n);
            long noneFirst = power(b - a, n);
            long noneSecond = power(a, n);
            set(whole + noneSecond + (law == LAW_SKIPPING ? 0 : noneFirst), 1);
            for (int k = 1; k < n; k++) {
                long weight = choose(n, k) * power(a, k) * power(b - a, n - k);
                plus(weight * at(above, k), at(below, k));
                plus(weight * at(above, n - k), at(below, n - k));
            }
            set(sumAbove, sumBelow * (whole - noneFirst - noneSecond));
        }

        /** The chance that n senders take s slots, left in the sum. */
        void reckonChance(int law, int n, int s) {
            Arrays.fill(ways, 0);
            for (int i = 0; i <= n; i++) {
                for (int t = 1; t <= s; t++) {
                    long first = t == 1 ? 8 : 0;
                    put(ways, place(i, t), i < 2 ? first : splitWays(law, i, t));
                }
            }
            set(at(ways, place(n, s)), power(8, s));
        }

        long splitWays(int law, int n, int s) {
            long sum = 0;
            for (int k = 0; k <= n; k++) {
                boolean skips = k == 0 && law == LAW_SKIPPING;
                sum += choose(n, k) * (skips ? at(ways, place(n, s - 1)) : bothWays(k, n - k, s - 1));
            }
            return sum * power(2, MOST_CHANCE - n);
        }

        long bothWays(int one, int two, int s) {
            long sum = 0;
            for (int t = 1; t < s; t++) {
                sum += at(ways, place(one, t)) * at(ways, place(two, s - t));
            }
            return sum;
        }

        static int place(int n, int s) {
            return n * (MOST_TAKEN + 1) + s;
        }

        int bestCount(int law) {
            reckon(law, MOST_EVEN, 1, 2);
            int best = 1;
            for (int n = 2; n <= MOST_EVEN; n++) {
                if (n * at(below, n) * at(above, best) > best * at(below, best) * at(above, n)) {
                    best = n;
                }
            }
            return best;
        }

        void set(long x, long y) {
            long common = common(x, y);
            sumAbove = common > 0 ? x / common : x;
            sumBelow = common > 0 ? y / common : y;
        }

        void plus(long x, long y) {
            long common = common(sumBelow, y);
            if (common > 0) {
                set(sumAbove * (y / common) + x * (sumBelow / common), sumBelow / common * y);
            }
        }

        /** The greatest common divisor; a long's is found in less than 100 steps. */
        static long common(long x, long y) {
            long a = x;
            long b = y;
            for (int i = 0; i < 100 && b != 0; i++) {
                long rest = a % b;
                a = b;
                b = rest;
            }
            return a;
        }

        static long power(long x, int n) {
            long product = 1;
            for (int i = 0; i < n; i++) {
                product *= x;
            }
            return product;
        }

        static long choose(int n, int k) {
            long ways = 1;
            for (int i = 1; i <= k; i++) {
                ways = ways * (n - k + i) / i;
            }
            return ways;
        }
    }
}
