import java.util.Arrays;

/**
 * A list that readers go through without locks, and the grace periods behind which
 * what is out of the list is freed. The document's words are kept in the comments in capitals.
 */
public final class GraceTree {
    public static final int NONE = -1;

    private static final int BAD_NUMBER = -1;
    private static final int NO_SUCH = -2;
    private static final int CANNOT = -3;
    private static final int NO_ROOM = -5;
    private static final int BAD_TEXT = -6;

    private static final int CELLS = 24;
    private static final int PROCESSORS = 8;
    private static final int KEYS = 100;
    private static final int VALUES = 1000;
    private static final int TOP = 1;
    private static final int FIRST_LEAF = 4;
    private static final int NODES_END = 8;
    private static final int BOTH_CHILDREN = 3;
    private static final int LAST_TIME = 999;

    private static final int FREE = 0;
    private static final int LIVE = 1;
    private static final int OLD = 2;

    private static final int PUT = 0;
    private static final int DROP = 1;
    private static final int ENTER = 2;
    private static final int STEP = 3;
    private static final int PARK = 4;
    private static final int LEAVE = 5;
    private static final int TICK = 6;
    private static final int BEGIN = 7;
    private static final int HURRY = 8;

    private static final int LAW_ROOM = 6;
    private static final int SEEN_ROOM = 6;
    private static final int UNDO_ROOM = 16;
    private static final int TAPE_ROOM = 400;
    private static final int FACTS = 3;
    private static final int NO_KEY = 100;
    private static final int MOST_LOST = 20;
    private static final long WHOLE_CHANCE = 1_000_000_000_000L;

    private final World world = new World();
    private final World paper = new World();
    private final Machine machine = new Machine();
    private final Rules rules = new Rules(machine);
    private final Clues clues = new Clues();
    private final History history = new History();
    private final History spareHistory = new History();
    private final Image imageZero = new Image(machine);
    private final Image imageOne = new Image(machine);
    private final Tape tape = new Tape();
    private final Parser parser = new Parser();
    private final int[] refusals = new int[5];
    private final int[] drawnKinds = new int[CELLS];
    private final long[] chances = new long[MOST_LOST];
    private int tornPairs = 0;
    private int faultPlace = NONE;
    private int stoppedClause = NONE;
    private int ordersDone = 0;
    private int ordersLatest = NONE;
    private int latestStatus = 0;

    public GraceTree() {
        Arrays.fill(drawnKinds, NONE);
    }

    // ---- what stands

    public int of(int processor, int what) {
        if (!isProcessor(processor)) {
            return NONE;
        }
        int bit = 1 << processor;
        switch (what) {
            case 0:
                return bitOf(world.in, bit);
            case 1:
                return world.cellOf(processor);
            case 2:
                return bitOf(world.parked, bit);
            case 3:
                return bitOf(world.held, bit);
            case 4:
                return 1 - bitOf(world.unreported(), bit);
            default:
                return NONE;
        }
    }

    public int cell(int cell, int what) {
        if (!isCell(cell)) {
            return NONE;
        }
        Cells cells = world.cells;
        if (what == 0) {
            return cells.kind[cell];
        }
        if (cells.kind[cell] == FREE) {
            return NONE;
        }
        switch (what) {
            case 1:
                return cells.key[cell];
            case 2:
                return cells.value[cell];
            case 3:
                return cells.next[cell];
            default:
                return NONE;
        }
    }

    public int list(int i) {
        return world.cells.along(world.cells.head, i);
    }

    public int find(int key) {
        int cell = world.cells.holding(key);
        return isCell(cell) ? world.cells.value[cell] : NONE;
    }

    public int node(int node) {
        if (!isNode(node)) {
            return NONE;
        }
        return world.runs ? world.missing[node] : 0;
    }

    public int old(int which, int i) {
        Cells cells = world.cells;
        if (which == 0 && i >= 0 && i < cells.waitingCount && i < CELLS) {
            return cells.waiting[i];
        }
        if (which == 1 && i >= 0 && i < cells.currentCount && i < CELLS) {
            return cells.current[i];
        }
        return NONE;
    }

    public int terms(int what, int value) {
        int most = mostOfTerm(what);
        if (value < 0 || value > most) {
            return told(BAD_NUMBER);
        }
        int was = termNow(what);
        if (what == 0) {
            world.time = value;
        } else if (what == 1) {
            rules.losses = value;
        } else {
            rules.mood = value;
        }
        history.clear();
        return told(was);
    }

    // ---- the tape and what is read from it

    public int feed(int a, int b, int c, int d, int e) {
        if (tape.length + 20 > TAPE_ROOM) {
            return NONE;
        }
        tape.addFour(a);
        tape.addFour(b);
        tape.addFour(c);
        tape.addFour(d);
        tape.addFour(e);
        return tape.length;
    }

    public int end(int n) {
        if (n < 0 || n > tape.length) {
            return NONE;
        }
        tape.length = n;
        return n;
    }

    public int row() {
        if (tape.length == 0) {
            return told(BAD_TEXT);
        }
        int done = 0;
        int torn = tape.length % 2;
        for (int i = 0; i + 1 < tape.length && i + 1 < TAPE_ROOM; i += 2) {
            if (world.putKey(tape.bytes[i], tape.bytes[i + 1], rules) >= 0) {
                done++;
            } else {
                torn++;
            }
        }
        tape.length = 0;
        tornPairs = torn;
        history.clear();
        return told(done);
    }

    public int tears() {
        return tornPairs;
    }

    public int law() {
        if (rules.lawCount >= LAW_ROOM) {
            tape.length = 0;
            return told(NO_ROOM);
        }
        boolean stands = parser.reads(tape, false);
        tape.length = 0;
        faultPlace = parser.fault;
        if (!stands) {
            return told(BAD_TEXT);
        }
        return told(rules.addLaw(parser.text.cutToSize()));
    }

    public int orders() {
        boolean stands = parser.reads(tape, true);
        tape.length = 0;
        faultPlace = parser.fault;
        stoppedClause = NONE;
        if (!stands) {
            return told(BAD_TEXT);
        }
        paper.copyFrom(world);
        spareHistory.copyFrom(history);
        ordersDone = 0;
        ordersLatest = NONE;
        for (int clause = 0; clause < parser.text.clauseCount; clause++) {
            if (!runClause(parser.text, clause)) {
                world.copyFrom(paper);
                history.copyFrom(spareHistory);
                stoppedClause = clause;
                return told(CANNOT);
            }
        }
        return told(ordersDone);
    }

    public int fault() {
        return faultPlace;
    }

    public int stopped() {
        return stoppedClause;
    }

    public int force(int law) {
        if (law != NONE && !rules.hasLaw(law)) {
            return told(NO_SUCH);
        }
        int was = rules.inForce;
        rules.inForce = law;
        // what was in force may be NONE, which is no refusal
        latestStatus = 0;
        return was;
    }

    // ---- acts

    public int put(int key, int value) {
        history.prepare(world);
        return acted(PUT, world.putKey(key, value, rules));
    }

    public int drop(int key) {
        history.prepare(world);
        return acted(DROP, world.dropKey(key));
    }

    public int enter(int processor) {
        history.prepare(world);
        return acted(ENTER, world.goIn(processor));
    }

    public int step(int processor) {
        history.prepare(world);
        return acted(STEP, world.goOn(processor));
    }

    public int park(int processor) {
        history.prepare(world);
        return acted(PARK, world.standStill(processor));
    }

    public int leave(int processor) {
        history.prepare(world);
        return acted(LEAVE, world.goOut(processor, rules));
    }

    public int tick(int processor) {
        history.prepare(world);
        return acted(TICK, world.beQuiet(processor, rules));
    }

    public int begin() {
        history.prepare(world);
        return acted(BEGIN, world.startGrace());
    }

    public int hurry() {
        history.prepare(world);
        return acted(HURRY, world.hurryGrace(rules));
    }

    public int undo() {
        return told(history.takeBack(world));
    }

    // ---- on paper

    public int sees(int processor, int i) {
        return world.cells.along(world.cellOf(processor), i);
    }

    public int reach(int cell) {
        if (!isCell(cell)) {
            return NONE;
        }
        int bits = 0;
        for (int p = 0; p < PROCESSORS; p++) {
            if (world.cells.leadsTo(world.cellOf(p), cell)) {
                bits |= 1 << p;
            }
        }
        return bits;
    }

    public int holders() {
        return world.runs ? world.unreported() | world.held : 0;
    }

    public int why(int i) {
        if (!world.runs || i < 0 || i > 3) {
            return NONE;
        }
        int node = TOP;
        for (int level = 0; level < i && node < FIRST_LEAF; level++) {
            node = 2 * node + ((world.missing[node] & 1) != 0 ? 0 : 1);
        }
        return i < 3 ? node : world.whyLeaf(node);
    }

    public int least() {
        if (!world.runs) {
            return NONE;
        }
        int open = world.unreported();
        int walking = world.in & ~world.parked & open;
        return Integer.bitCount(open) + Integer.bitCount(world.held) + Integer.bitCount(walking);
    }

    public int seen(int fact, int n) {
        if (fact < 0 || fact >= FACTS || n < 0 || n > NO_KEY) {
            return told(BAD_NUMBER);
        }
        return told(clues.note(fact, n));
    }

    public int forget() {
        int was = clues.size;
        clues.size = 0;
        return was;
    }

    public int canBe() {
        return clues.fitting(world);
    }

    public int ask(int what) {
        int readers = clues.fitting(world);
        if (readers == 0 || what < 0 || what > 1) {
            return NONE;
        }
        int best = 0;
        int fewest = PROCESSORS + 1;
        for (int fact = 0; fact < FACTS; fact++) {
            int alike = clues.mostAlike(world, fact, readers);
            if (alike < fewest) {
                fewest = alike;
                best = fact;
            }
        }
        return what == 0 ? best : fewest;
    }

    public long few(int k, int n) {
        if (k < 1 || k > MOST_LOST || n < 0 || n > 99) {
            return NONE;
        }
        Arrays.fill(chances, 0L);
        chances[0] = WHOLE_CHANCE;
        long lost = rules.losses;
        for (int report = 0; report < n; report++) {
            // from above, so that each part is still the one ahead of this report
            for (int j = k - 1; j > 0; j--) {
                chances[j] = chances[j] * (10 - lost) / 10 + chances[j - 1] * lost / 10;
            }
            chances[0] = chances[0] * (10 - lost) / 10;
        }
        long sum = 0;
        for (int j = 0; j < k; j++) {
            sum += chances[j];
        }
        return sum;
    }

    public int compare(int law, int node, int child) {
        if (law != NONE && !rules.hasLaw(law)) {
            return NONE;
        }
        if (!isNode(node) || child < 0 || child > 1) {
            return NONE;
        }
        return rules.costOf(rules.lawAt(law), node, child, world);
    }

    public int days(int seed, int n) {
        if (seed < 0 || seed > 1_000_000 || n < 1 || n > 60) {
            return told(BAD_NUMBER);
        }
        paper.copyFrom(world);
        int endedBefore = paper.gracesEnded();
        int s = seed;
        for (int i = 0; i < n; i++) {
            s = drawAfter(s);
            int first = s % 8;
            s = drawAfter(s);
            int second = s % 6;
            s = drawAfter(s);
            int act = s % 9;
            boolean ofKey = act == PUT || act == DROP;
            if (act == HURRY) {
                paper.hurryGrace(rules);
            } else {
                paper.act(act, ofKey ? second : first, first, rules);
            }
        }
        System.arraycopy(paper.cells.kind, 0, drawnKinds, 0, CELLS);
        return told(paper.gracesEnded() - endedBefore);
    }

    public int drawn(int cell) {
        return isCell(cell) ? drawnKinds[cell] : NONE;
    }

    // ---- images, counts

    public int image(int k) {
        if (k != 0 && k != 1) {
            return told(BAD_NUMBER);
        }
        imageAt(k).keep(world, rules, clues);
        return told(0);
    }

    public int back(int k) {
        if (k != 0 && k != 1) {
            return told(BAD_NUMBER);
        }
        if (!imageAt(k).kept) {
            return told(NO_SUCH);
        }
        imageAt(k).giveBack(world, rules, clues);
        history.clear();
        return told(0);
    }

    public int count(int what) {
        if (what >= 10 && what <= 14) {
            return refusals[what - 10];
        }
        switch (what) {
            case 0:
                return world.cells.liveCount();
            case 1:
                return world.cells.waitingCount;
            case 2:
                return world.cells.currentCount;
            case 3:
                return world.begun;
            case 4:
                return world.runs ? 1 : 0;
            case 5:
                return world.cost;
            case 6:
                return clues.size;
            case 7:
                return rules.lawCount;
            case 8:
                return history.size;
            case 9:
                return tape.length;
            case 15:
                return rules.inForce;
            default:
                return what >= 16 && what <= 18 ? termNow(what - 16) : NONE;
        }
    }

    public int status() {
        return latestStatus;
    }

    // ---- helpers of the face

    /** An answer of a call that can be REFUSED; every answer below 0 is a refusal here. */
    private int told(int answer) {
        latestStatus = Math.min(answer, 0);
        // -4 is no refusal of the document, so the numbers behind it are one nearer
        int place = answer >= CANNOT ? -1 - answer : -2 - answer;
        if (answer < 0 && place >= 0 && place < refusals.length) {
            refusals[place]++;
        }
        return answer;
    }

    private int acted(int act, int answer) {
        if (answer >= 0) {
            history.commit(act);
        }
        return told(answer);
    }

    private boolean runClause(Text text, int clause) {
        int times = text.entry(clause, Text.TIMES);
        int act = text.entry(clause, Text.KIND);
        for (int i = 0; i < times; i++) {
            tellOrderWords();
            if (!machine.runs(text, text.entry(clause, Text.TEST)) || machine.result == 0) {
                continue;
            }
            if (!machine.runs(text, text.entry(clause, Text.FIRST))) {
                return false;
            }
            int a = (int) machine.result;
            if (!machine.runs(text, text.entry(clause, Text.SECOND))) {
                return false;
            }
            int b = (int) machine.result;
            history.prepare(world);
            int answer = world.act(act, a, b, rules);
            if (answer < 0) {
                return false;
            }
            history.commit(act);
            ordersDone++;
            ordersLatest = answer;
        }
        return true;
    }

    private void tellOrderWords() {
        int[] words = machine.words;
        words[Parser.WORD_TIME] = world.time;
        words[Parser.WORD_DONE] = ordersDone;
        words[Parser.WORD_LATEST] = ordersLatest;
        words[Parser.WORD_WAITS] = world.cells.waitingCount;
        words[Parser.WORD_GRACES] = world.begun;
        for (int p = 0; p < PROCESSORS; p++) {
            words[Parser.WORDS_AT + p] = world.cellOf(p);
        }
        world.cells.tellValues(words, Parser.WORDS_VALUE);
    }

    private int termNow(int what) {
        switch (what) {
            case 0:
                return world.time;
            case 1:
                return rules.losses;
            case 2:
                return rules.mood;
            default:
                return NONE;
        }
    }

    private Image imageAt(int k) {
        return k == 0 ? imageZero : imageOne;
    }

    private static int mostOfTerm(int what) {
        switch (what) {
            case 0:
                return LAST_TIME;
            case 1:
                return 10;
            case 2:
                return 9;
            default:
                return NONE;
        }
    }

    private static int drawAfter(int s) {
        return (int) ((s * 1103L + 12345L) % 1_000_003L);
    }

    private static int bitOf(int bits, int bit) {
        return (bits & bit) != 0 ? 1 : 0;
    }

    private static boolean isProcessor(int processor) {
        return processor >= 0 && processor < PROCESSORS;
    }

    private static boolean isCell(int cell) {
        return cell >= 0 && cell < CELLS;
    }

    private static boolean isNode(int node) {
        return node >= TOP && node < NODES_END;
    }

    /** The CELLS, the LIST through them, and those that are out of it and not yet FREE. */
    static final class Cells {
        final int[] kind = new int[CELLS];
        final int[] key = new int[CELLS];
        final int[] value = new int[CELLS];
        final int[] next = new int[CELLS];
        final int[] waiting = new int[CELLS];
        final int[] current = new int[CELLS];
        int head = NONE;
        int waitingCount = 0;
        int currentCount = 0;

        void copyFrom(Cells other) {
            System.arraycopy(other.kind, 0, kind, 0, CELLS);
            System.arraycopy(other.key, 0, key, 0, CELLS);
            System.arraycopy(other.value, 0, value, 0, CELLS);
            System.arraycopy(other.next, 0, next, 0, CELLS);
            System.arraycopy(other.waiting, 0, waiting, 0, CELLS);
            System.arraycopy(other.current, 0, current, 0, CELLS);
            head = other.head;
            waitingCount = other.waitingCount;
            currentCount = other.currentCount;
        }

        /** The i-th CELL of the row that begins at a CELL and goes on by NEXT. */
        int along(int from, int i) {
            int cell = from;
            for (int gone = 0; gone < i && gone < CELLS && isCell(cell); gone++) {
                cell = next[cell];
            }
            return i >= 0 && i < CELLS && isCell(cell) ? cell : NONE;
        }

        boolean leadsTo(int from, int goal) {
            int cell = from;
            for (int gone = 0; gone < CELLS && isCell(cell); gone++) {
                if (cell == goal) {
                    return true;
                }
                cell = next[cell];
            }
            return false;
        }

        int holding(int wanted) {
            int cell = follower(lastBelow(wanted));
            return isCell(cell) && key[cell] == wanted ? cell : NONE;
        }

        int liveCount() {
            int live = 0;
            for (int cell = 0; cell < CELLS; cell++) {
                live += kind[cell] == LIVE ? 1 : 0;
            }
            return live;
        }

        void tellValues(int[] words, int first) {
            if (first < 0 || first + KEYS > words.length) {
                return;
            }
            for (int k = 0; k < KEYS; k++) {
                words[first + k] = NONE;
            }
            int cell = head;
            for (int gone = 0; gone < CELLS && isCell(cell); gone++) {
                if (key[cell] >= 0 && key[cell] < KEYS) {
                    words[first + key[cell]] = value[cell];
                }
                cell = next[cell];
            }
        }

        int insert(int newKey, int newValue) {
            int fresh = lowestFree();
            if (!isCell(fresh)) {
                return NO_ROOM;
            }
            int prior = lastBelow(newKey);
            int there = follower(prior);
            boolean replaces = isCell(there) && key[there] == newKey;
            kind[fresh] = LIVE;
            key[fresh] = newKey;
            value[fresh] = newValue;
            next[fresh] = replaces ? next[there] : there;
            leadTo(prior, fresh);
            if (replaces) {
                retire(there);
            }
            return fresh;
        }

        int remove(int wanted) {
            int prior = lastBelow(wanted);
            int there = follower(prior);
            if (!isCell(there) || key[there] != wanted) {
                return CANNOT;
            }
            leadTo(prior, next[there]);
            retire(there);
            return there;
        }

        void waitingBecomeCurrent() {
            for (int i = 0; i < waitingCount && i < CELLS; i++) {
                current[i] = waiting[i];
            }
            currentCount = waitingCount;
            waitingCount = 0;
        }

        int freeCurrent() {
            int freed = currentCount;
            for (int i = 0; i < freed && i < CELLS; i++) {
                if (isCell(current[i])) {
                    kind[current[i]] = FREE;
                }
            }
            currentCount = 0;
            return freed;
        }

        private int lowestFree() {
            for (int cell = 0; cell < CELLS; cell++) {
                if (kind[cell] == FREE) {
                    return cell;
                }
            }
            return NONE;
        }

        /** The last CELL of the LIST whose KEY is below; NONE: the HEAD comes first. */
        private int lastBelow(int wanted) {
            int prior = NONE;
            int cell = head;
            for (int gone = 0; gone < CELLS && isCell(cell) && key[cell] < wanted; gone++) {
                prior = cell;
                cell = next[cell];
            }
            return prior;
        }

        private int follower(int prior) {
            return isCell(prior) ? next[prior] : head;
        }

        private void leadTo(int prior, int cell) {
            if (isCell(prior)) {
                next[prior] = cell;
            } else {
                head = cell;
            }
        }

        private void retire(int cell) {
            if (waitingCount < CELLS) {
                kind[cell] = OLD;
                waiting[waitingCount] = cell;
                waitingCount++;
            }
        }
    }

    /** All that undo() gives back: CELLS, READERS, GRACES, NODES, what REPORTS COST, TIME. */
    static final class World {
        final Cells cells = new Cells();
        final int[] at = new int[PROCESSORS];
        final int[] missing = new int[NODES_END];
        int in = 0;
        int parked = 0;
        int held = 0;
        boolean runs = false;
        int begun = 0;
        int cost = 0;
        int time = 0;

        void copyFrom(World other) {
            cells.copyFrom(other.cells);
            System.arraycopy(other.at, 0, at, 0, PROCESSORS);
            System.arraycopy(other.missing, 0, missing, 0, NODES_END);
            in = other.in;
            parked = other.parked;
            held = other.held;
            runs = other.runs;
            begun = other.begun;
            cost = other.cost;
            time = other.time;
        }

        /** An act that ORDERS know; numbers that it does not take are not looked at. */
        int act(int act, int a, int b, Rules rules) {
            switch (act) {
                case PUT:
                    return putKey(a, b, rules);
                case DROP:
                    return dropKey(a);
                case ENTER:
                    return goIn(a);
                case STEP:
                    return goOn(a);
                case PARK:
                    return standStill(a);
                case LEAVE:
                    return goOut(a, rules);
                case TICK:
                    return beQuiet(a, rules);
                case BEGIN:
                    return startGrace();
                default:
                    return CANNOT;
            }
        }

        int cellOf(int processor) {
            boolean inside = isProcessor(processor) && (in & 1 << processor) != 0;
            return inside ? at[processor] : NONE;
        }

        /** PROCESSORS that have not REPORTED, as bits; none, if no GRACE RUNS. */
        int unreported() {
            if (!runs) {
                return 0;
            }
            return missing[4] | missing[5] << 2 | missing[6] << 4 | missing[7] << 6;
        }

        int gracesEnded() {
            return runs ? begun - 1 : begun;
        }

        int whyLeaf(int leaf) {
            int lower = 2 * (leaf - FIRST_LEAF);
            int open = unreported() >> lower & BOTH_CHILDREN;
            if (open != 0) {
                return 10 + lower + ((open & 1) != 0 ? 0 : 1);
            }
            return 20 + lower + ((held >> lower & 1) != 0 ? 0 : 1);
        }

        int putKey(int key, int value, Rules rules) {
            if (key < 0 || key >= KEYS || value < 0 || value >= VALUES) {
                return BAD_NUMBER;
            }
            return rules.bars(key, time) ? CANNOT : cells.insert(key, value);
        }

        int dropKey(int key) {
            if (key < 0 || key >= KEYS) {
                return BAD_NUMBER;
            }
            return cells.remove(key);
        }

        int goIn(int processor) {
            if (!isProcessor(processor)) {
                return BAD_NUMBER;
            }
            int bit = 1 << processor;
            if ((in & bit) != 0) {
                return CANNOT;
            }
            in |= bit;
            at[processor] = cells.head;
            return 1 + at[processor];
        }

        int goOn(int processor) {
            if (!isProcessor(processor)) {
                return BAD_NUMBER;
            }
            int cell = cellOf(processor);
            if (!isCell(cell) || (parked & 1 << processor) != 0) {
                return CANNOT;
            }
            at[processor] = cells.next[cell];
            return 1 + at[processor];
        }

        int standStill(int processor) {
            if (!isProcessor(processor)) {
                return BAD_NUMBER;
            }
            int bit = 1 << processor;
            if ((in & bit) == 0 || (parked & bit) != 0) {
                return CANNOT;
            }
            parked |= bit;
            held |= unreported() & bit;
            return Integer.bitCount(parked & processorsOf(leafOf(processor)));
        }

        int goOut(int processor, Rules rules) {
            if (!isProcessor(processor)) {
                return BAD_NUMBER;
            }
            int bit = 1 << processor;
            if ((in & bit) == 0) {
                return CANNOT;
            }
            boolean wasHeld = (held & bit) != 0;
            in &= ~bit;
            parked &= ~bit;
            held &= ~bit;
            int leaf = leafOf(processor);
            return wasHeld && isQuiet(leaf) ? report(leaf / 2, leaf & 1, rules) : 0;
        }

        int beQuiet(int processor, Rules rules) {
            if (!isProcessor(processor)) {
                return BAD_NUMBER;
            }
            int bit = 1 << processor;
            if ((in & ~parked & bit) != 0) {
                return CANNOT;
            }
            if ((unreported() & bit) == 0) {
                return 0;
            }
            return report(leafOf(processor), processor & 1, rules);
        }

        int startGrace() {
            if (runs || cells.waitingCount == 0) {
                return CANNOT;
            }
            runs = true;
            begun++;
            cells.waitingBecomeCurrent();
            Arrays.fill(missing, BOTH_CHILDREN);
            held = parked;
            return begun;
        }

        int hurryGrace(Rules rules) {
            if (!runs) {
                return CANNOT;
            }
            int hurried = begun;
            int freed = 0;
            for (int p = 0; p < PROCESSORS && runs && begun == hurried; p++) {
                // one that has REPORTED does nothing, one that can't is told below 0
                freed += Math.max(beQuiet(p, rules), 0);
            }
            return freed;
        }

        /** A REPORT to a NODE, and those to NODES above that come of it. */
        private int report(int toNode, int ofChild, Rules rules) {
            int child = ofChild;
            for (int node = toNode; node >= TOP && node < NODES_END; node /= 2) {
                cost += rules.costOf(rules.lawAt(rules.inForce), node, child, this);
                missing[node] &= ~(1 << child);
                if (!isQuiet(node)) {
                    return 0;
                }
                child = node & 1;
            }
            return endGrace();
        }

        private boolean isQuiet(int node) {
            boolean holds = node >= FIRST_LEAF && (held & processorsOf(node)) != 0;
            return missing[node] == 0 && !holds;
        }

        private int endGrace() {
            int freed = cells.freeCurrent();
            runs = false;
            held = 0;
            time = Math.min(time + 1, LAST_TIME);
            startGrace();
            return freed;
        }

        private static int leafOf(int processor) {
            return FIRST_LEAF + processor / 2;
        }

        private static int processorsOf(int leaf) {
            return BOTH_CHILDREN << 2 * (leaf - FIRST_LEAF);
        }
    }

    /** LAWS, which of them is in FORCE, and the TERMS that no act changes. */
    static final class Rules {
        private static final int LEAST_COST = 0;
        private static final int MOST_COST = 99;
        private static final int PLAIN_COST = 1;

        private final Machine machine;
        private final Text[] laws = new Text[LAW_ROOM];
        int lawCount = 0;
        int inForce = NONE;
        int losses = 1;
        int mood = 0;

        Rules(Machine machine) {
            this.machine = machine;
        }

        void copyFrom(Rules other) {
            for (int i = 0; i < LAW_ROOM; i++) {
                laws[i] = other.laws[i];
            }
            lawCount = other.lawCount;
            inForce = other.inForce;
            losses = other.losses;
            mood = other.mood;
        }

        boolean hasLaw(int law) {
            return law >= 0 && law < lawCount && law < LAW_ROOM;
        }

        /** The LAW, null for NONE. */
        Text lawAt(int law) {
            return law >= 0 && law < lawCount && law < LAW_ROOM ? laws[law] : null;
        }

        int addLaw(Text law) {
            if (lawCount >= LAW_ROOM) {
                return NO_ROOM;
            }
            laws[lawCount] = law;
            lawCount++;
            return lawCount - 1;
        }

        int costOf(Text law, int node, int child, World world) {
            if (law == null) {
                return PLAIN_COST;
            }
            int level = node == TOP ? 0 : node < FIRST_LEAF ? 1 : 2;
            tellWhere(node, level, child, world.cells.currentCount);
            tellWhat(NONE, world.time);
            for (int clause = law.clauseCount - 1; clause >= 0; clause--) {
                if (law.entry(clause, Text.KIND) == Parser.COSTS
                        && machine.runs(law, law.entry(clause, Text.TEST))
                        && machine.result != 0
                        && machine.runs(law, law.entry(clause, Text.FIRST))) {
                    long told = machine.result;
                    return (int) Math.max(LEAST_COST, Math.min(MOST_COST, told));
                }
            }
            return PLAIN_COST;
        }

        boolean bars(int key, int time) {
            Text law = lawAt(inForce);
            if (law == null) {
                return false;
            }
            tellWhere(NONE, NONE, NONE, NONE);
            tellWhat(key, time);
            for (int clause = 0; clause < law.clauseCount; clause++) {
                if (law.entry(clause, Text.KIND) == Parser.BARS
                        && machine.runs(law, law.entry(clause, Text.TEST))
                        && machine.result != 0) {
                    return true;
                }
            }
            return false;
        }

        private void tellWhere(int node, int level, int child, int many) {
            machine.words[Parser.WORD_NODE] = node;
            machine.words[Parser.WORD_LEVEL] = level;
            machine.words[Parser.WORD_CHILD] = child;
            machine.words[Parser.WORD_MANY] = many;
        }

        private void tellWhat(int key, int time) {
            machine.words[Parser.WORD_KEY] = key;
            machine.words[Parser.WORD_LAW_TIME] = time;
            machine.words[Parser.WORD_MOOD] = mood;
        }
    }

    /** What was SEEN of a READER nobody knows. */
    static final class Clues {
        private final int[] fact = new int[SEEN_ROOM];
        private final int[] told = new int[SEEN_ROOM];
        int size = 0;

        void copyFrom(Clues other) {
            System.arraycopy(other.fact, 0, fact, 0, SEEN_ROOM);
            System.arraycopy(other.told, 0, told, 0, SEEN_ROOM);
            size = other.size;
        }

        int note(int newFact, int n) {
            if (size >= SEEN_ROOM) {
                return NO_ROOM;
            }
            fact[size] = newFact;
            told[size] = n;
            size++;
            return size;
        }

        int fitting(World world) {
            int bits = 0;
            for (int p = 0; p < PROCESSORS; p++) {
                boolean fits = true;
                for (int i = 0; i < size && i < SEEN_ROOM; i++) {
                    fits = fits && factOf(world, p, fact[i]) == told[i];
                }
                bits |= fits ? 1 << p : 0;
            }
            return bits;
        }

        int mostAlike(World world, int asked, int readers) {
            int most = 0;
            for (int p = 0; p < PROCESSORS; p++) {
                int alike = 0;
                for (int q = 0; q < PROCESSORS && (readers & 1 << p) != 0; q++) {
                    boolean same = factOf(world, p, asked) == factOf(world, q, asked);
                    alike += same && (readers & 1 << q) != 0 ? 1 : 0;
                }
                most = Math.max(most, alike);
            }
            return most;
        }

        private static int factOf(World world, int processor, int asked) {
            if (asked == 0) {
                return bitOf(world.in, 1 << processor);
            }
            if (asked == 1) {
                return bitOf(world.parked, 1 << processor);
            }
            int cell = world.cellOf(processor);
            return isCell(cell) ? world.cells.key[cell] : NO_KEY;
        }
    }

    /** What can be undone: for each act the WORLD ahead of it. */
    static final class History {
        // one more than is kept, so that an act that is REFUSED writes over nothing
        private static final int SLOTS = UNDO_ROOM + 1;

        private final World[] worlds = new World[SLOTS];
        private final int[] acts = new int[SLOTS];
        private int first = 0;
        int size = 0;

        History() {
            for (int i = 0; i < SLOTS; i++) {
                worlds[i] = new World();
            }
        }

        void copyFrom(History other) {
            first = other.first;
            size = other.size;
            for (int i = 0; i < size; i++) {
                int slot = slotOf(i);
                worlds[slot].copyFrom(other.worlds[slot]);
                acts[slot] = other.acts[slot];
            }
        }

        void clear() {
            size = 0;
        }

        void prepare(World world) {
            worlds[slotOf(size)].copyFrom(world);
        }

        /** What was prepared is kept, the oldest gives way. */
        void commit(int act) {
            acts[slotOf(size)] = act;
            if (size < UNDO_ROOM) {
                size++;
            } else {
                first = slotOf(1);
            }
        }

        int takeBack(World world) {
            if (size == 0) {
                return CANNOT;
            }
            size--;
            world.copyFrom(worlds[slotOf(size)]);
            return acts[slotOf(size)];
        }

        private int slotOf(int i) {
            return Math.floorMod(first + i, SLOTS);
        }
    }

    /** All that image() keeps. */
    static final class Image {
        private final World world = new World();
        private final Rules rules;
        private final Clues clues = new Clues();
        boolean kept = false;

        Image(Machine machine) {
            rules = new Rules(machine);
        }

        void keep(World nowWorld, Rules nowRules, Clues nowClues) {
            world.copyFrom(nowWorld);
            rules.copyFrom(nowRules);
            clues.copyFrom(nowClues);
            kept = true;
        }

        void giveBack(World nowWorld, Rules nowRules, Clues nowClues) {
            nowWorld.copyFrom(world);
            nowRules.copyFrom(rules);
            nowClues.copyFrom(clues);
        }
    }

    /** The bytes from which ROWS and TEXTS are read. */
    static final class Tape {
        final int[] bytes = new int[TAPE_ROOM];
        int length = 0;

        void addFour(int number) {
            for (int shift = 24; shift >= 0 && length < TAPE_ROOM; shift -= 8) {
                bytes[length] = number >>> shift & 255;
                length++;
            }
        }
    }

    /** A TEXT that was read: its CLAUSES, and its SUMS and TESTS as steps for the Machine. */
    static final class Text {
        static final int CLAUSE_ROOM = 12;
        // the 50 PARTS and what 400 bytes can join them by stay far below
        static final int STEP_ROOM = 400;

        static final int KIND = 0;
        static final int FIRST = 1;
        static final int SECOND = 2;
        static final int TIMES = 3;
        static final int TEST = 4;
        static final int ENTRIES = 5;

        final int[] steps;
        final int[] args;
        final int[] entries;
        int length = 0;
        int clauseCount = 0;

        Text(int stepRoom, int clauseRoom) {
            steps = new int[Math.max(stepRoom, 0)];
            args = new int[Math.max(stepRoom, 0)];
            entries = new int[ENTRIES * Math.max(clauseRoom, 0)];
        }

        /** A LAW is kept for good, so it takes no more than it needs. */
        Text cutToSize() {
            Text cut = new Text(length, clauseCount);
            System.arraycopy(steps, 0, cut.steps, 0, length);
            System.arraycopy(args, 0, cut.args, 0, length);
            System.arraycopy(entries, 0, cut.entries, 0, ENTRIES * clauseCount);
            cut.length = length;
            cut.clauseCount = clauseCount;
            return cut;
        }

        void clear() {
            length = 0;
            clauseCount = 0;
        }

        int entry(int clause, int what) {
            int place = ENTRIES * clause + what;
            return place >= 0 && place < entries.length ? entries[place] : NONE;
        }

        void setEntry(int what, int n) {
            int place = ENTRIES * (clauseCount - 1) + what;
            if (place >= 0 && place < entries.length) {
                entries[place] = n;
            }
        }

        void addClause(int kind) {
            clauseCount++;
            setEntry(KIND, kind);
            setEntry(FIRST, NONE);
            setEntry(SECOND, NONE);
            setEntry(TIMES, 1);
            setEntry(TEST, NONE);
        }

        int addStep(int step, int arg) {
            if (length >= steps.length || length >= args.length) {
                return NONE;
            }
            steps[length] = step;
            args[length] = arg;
            length++;
            return length - 1;
        }

        /** A step that goes past what stands behind it goes to the next one that is added. */
        void landHere(int step) {
            if (step >= 0 && step < args.length) {
                args[step] = length;
            }
        }
    }

    /** Works out SUMS and TESTS; it knows of the rest only the row of words it is given. */
    static final class Machine {
        static final int NUMBER = 0;
        static final int WORD = 1;
        static final int NOT = 2;
        static final int SO_PAST = 3;
        static final int NOT_SO_PAST = 4;
        static final int STOP = 5;
        private static final long FARTHEST = 1_000_000_000L;
        private static final int STACK = 64;

        final int[] words = new int[Parser.WORD_ROOM];
        private final long[] stack = new long[STACK];
        long result = 0;

        /** False: BROKEN. Else the result is set: 1 for what is so, and where nothing is asked. */
        boolean runs(Text text, int start) {
            result = 1;
            if (start == NONE) {
                return true;
            }
            int top = 0;
            int place = start;
            // steps go forward alone, so none is done twice
            for (int done = 0; done < text.length; done++) {
                if (place < 0 || place >= text.length) {
                    return false;
                }
                int step = text.steps[place];
                int arg = text.args[place];
                place++;
                if (step == NUMBER || step == WORD) {
                    if (top < 0 || top >= STACK || arg < 0 || step == WORD && arg >= words.length) {
                        return false;
                    }
                    stack[top] = step == NUMBER ? arg : words[arg];
                    top++;
                    continue;
                }
                if (top < 1 || top > STACK) {
                    return false;
                }
                if (step == STOP) {
                    result = stack[top - 1];
                    return true;
                }
                if (step == NOT) {
                    stack[top - 1] = 1 - stack[top - 1];
                } else if (step == SO_PAST || step == NOT_SO_PAST) {
                    boolean past = (stack[top - 1] != 0) == (step == SO_PAST);
                    place = past ? arg : place;
                    top = past ? top : top - 1;
                } else {
                    if (top < 2 || isBroken(step, stack[top - 2], stack[top - 1])) {
                        return false;
                    }
                    top--;
                    stack[top - 1] = result;
                }
            }
            return false;
        }

        /** Sets the result of two numbers, by the sign between them. */
        private boolean isBroken(int sign, long a, long b) {
            if ((sign == '/' || sign == '%') && b == 0) {
                return true;
            }
            switch (sign) {
                case '+':
                    result = a + b;
                    break;
                case '-':
                    result = a - b;
                    break;
                case '*':
                    result = a * b;
                    break;
                case '/':
                    result = b == 0 ? 0 : a / b;
                    break;
                case '%':
                    result = b == 0 ? 0 : a % b;
                    break;
                case '<':
                    result = a < b ? 1 : 0;
                    break;
                case '>':
                    result = a > b ? 1 : 0;
                    break;
                case '=':
                    result = a == b ? 1 : 0;
                    break;
                default:
                    return true;
            }
            return result > FARTHEST || result < -FARTHEST;
        }
    }

    /** Cuts a TAPE into TOKENS. */
    static final class Tokens {
        static final int END = 0;
        static final int NUMBER = 1;
        static final int UNKNOWN = 2;
        // signs are told by their bytes, so words have numbers above all bytes
        static final int IF = 256;
        static final int OR = 257;
        static final int AND = 258;
        static final int NOT = 259;
        static final int AS = 260;
        static final int TIMES = 261;
        static final int COSTS = 262;
        static final int BARS = 263;
        static final int AT = 264;
        static final int VALUE = 265;
        static final int ACTS = 300;
        static final int WORDS = 400;
        static final int WORDS_END = 500;
        // each byte a TOKEN, and the end
        static final int ROOM = TAPE_ROOM + 1;
        private static final int TOO_MUCH = 10_000;

        final int[] kinds = new int[ROOM];
        final int[] starts = new int[ROOM];
        final int[] numbers = new int[ROOM];
        private int count = 0;

        void split(Tape tape, boolean ordersLanguage) {
            count = 0;
            int i = 0;
            // each round takes a byte at least
            for (int round = 0; round < TAPE_ROOM && i < tape.length; round++) {
                int sign = byteAt(tape, i);
                int start = i;
                if (isLetter(sign)) {
                    while (i < tape.length && isLetter(byteAt(tape, i))) {
                        i++;
                    }
                    add(wordFrom(tape, start, i, ordersLanguage), start, 0);
                } else if (isDigit(sign)) {
                    int number = 0;
                    while (i < tape.length && isDigit(byteAt(tape, i))) {
                        number = Math.min(TOO_MUCH, 10 * number + byteAt(tape, i) - '0');
                        i++;
                    }
                    add(NUMBER, start, number);
                } else {
                    i++;
                    if (sign != ' ') {
                        add(sign > ' ' ? sign : UNKNOWN, start, 0);
                    }
                }
            }
            add(END, tape.length, 0);
        }

        private void add(int kind, int start, int number) {
            if (count < ROOM) {
                kinds[count] = kind;
                starts[count] = start;
                numbers[count] = number;
                count++;
            }
        }

        private static int wordFrom(Tape tape, int from, int to, boolean ordersLanguage) {
            if (same(tape, from, to, "if")) {
                return IF;
            }
            if (same(tape, from, to, "or")) {
                return OR;
            }
            if (same(tape, from, to, "and")) {
                return AND;
            }
            if (same(tape, from, to, "not")) {
                return NOT;
            }
            if (!ordersLanguage) {
                return lawWord(tape, from, to);
            }
            int word = actWord(tape, from, to);
            return word != UNKNOWN ? word : orderWord(tape, from, to);
        }

        private static int lawWord(Tape tape, int from, int to) {
            if (same(tape, from, to, "costs")) {
                return COSTS;
            }
            if (same(tape, from, to, "bars")) {
                return BARS;
            }
            if (same(tape, from, to, "node")) {
                return WORDS + Parser.WORD_NODE;
            }
            if (same(tape, from, to, "level")) {
                return WORDS + Parser.WORD_LEVEL;
            }
            if (same(tape, from, to, "child")) {
                return WORDS + Parser.WORD_CHILD;
            }
            if (same(tape, from, to, "many")) {
                return WORDS + Parser.WORD_MANY;
            }
            if (same(tape, from, to, "key")) {
                return WORDS + Parser.WORD_KEY;
            }
            if (same(tape, from, to, "time")) {
                return WORDS + Parser.WORD_LAW_TIME;
            }
            return same(tape, from, to, "mood") ? WORDS + Parser.WORD_MOOD : UNKNOWN;
        }

        private static int actWord(Tape tape, int from, int to) {
            if (same(tape, from, to, "put")) {
                return ACTS + PUT;
            }
            if (same(tape, from, to, "drop")) {
                return ACTS + DROP;
            }
            if (same(tape, from, to, "enter")) {
                return ACTS + ENTER;
            }
            if (same(tape, from, to, "step")) {
                return ACTS + STEP;
            }
            if (same(tape, from, to, "park")) {
                return ACTS + PARK;
            }
            if (same(tape, from, to, "leave")) {
                return ACTS + LEAVE;
            }
            if (same(tape, from, to, "tick")) {
                return ACTS + TICK;
            }
            return same(tape, from, to, "begin") ? ACTS + BEGIN : UNKNOWN;
        }

        private static int orderWord(Tape tape, int from, int to) {
            if (same(tape, from, to, "as")) {
                return AS;
            }
            if (same(tape, from, to, "times")) {
                return TIMES;
            }
            if (same(tape, from, to, "at")) {
                return AT;
            }
            if (same(tape, from, to, "value")) {
                return VALUE;
            }
            if (same(tape, from, to, "time")) {
                return WORDS + Parser.WORD_TIME;
            }
            if (same(tape, from, to, "done")) {
                return WORDS + Parser.WORD_DONE;
            }
            if (same(tape, from, to, "latest")) {
                return WORDS + Parser.WORD_LATEST;
            }
            if (same(tape, from, to, "waits")) {
                return WORDS + Parser.WORD_WAITS;
            }
            return same(tape, from, to, "graces") ? WORDS + Parser.WORD_GRACES : UNKNOWN;
        }

        private static boolean same(Tape tape, int from, int to, String word) {
            if (to - from != word.length()) {
                return false;
            }
            for (int i = 0; i < word.length(); i++) {
                if (byteAt(tape, from + i) != word.charAt(i)) {
                    return false;
                }
            }
            return true;
        }

        private static int byteAt(Tape tape, int i) {
            return i >= 0 && i < TAPE_ROOM ? tape.bytes[i] : 0;
        }

        private static boolean isLetter(int sign) {
            return sign >= 'a' && sign <= 'z';
        }

        private static boolean isDigit(int sign) {
            return sign >= '0' && sign <= '9';
        }
    }

    /** Reads a TEXT of one of the two languages; each method is false behind a FAULT. */
    static final class Parser {
        static final int COSTS = 0;
        static final int BARS = 1;

        // places of the words in the Machine's row: of laws
        static final int WORD_NODE = 0;
        static final int WORD_LEVEL = 1;
        static final int WORD_CHILD = 2;
        static final int WORD_MANY = 3;
        static final int WORD_KEY = 4;
        static final int WORD_LAW_TIME = 5;
        static final int WORD_MOOD = 6;
        // of orders, with a place for each P and each K
        static final int WORD_TIME = 0;
        static final int WORD_DONE = 1;
        static final int WORD_LATEST = 2;
        static final int WORD_WAITS = 3;
        static final int WORD_GRACES = 4;
        static final int WORDS_AT = 5;
        static final int WORDS_VALUE = WORDS_AT + PROCESSORS;
        static final int WORD_ROOM = WORDS_VALUE + KEYS;

        private static final int MOST_PARTS = 50;
        private static final int MOST_BRACKETS = 8;
        private static final int MOST_NUMBER = 1000;
        private static final int MOST_TIMES = 20;

        final Text text = new Text(Text.STEP_ROOM, Text.CLAUSE_ROOM);
        private final Tokens tokens = new Tokens();
        private int token = 0;
        private int parts = 0;
        int fault = NONE;

        boolean reads(Tape tape, boolean ordersLanguage) {
            tokens.split(tape, ordersLanguage);
            text.clear();
            token = 0;
            parts = 0;
            fault = NONE;
            for (int clause = 0; clause < Text.CLAUSE_ROOM; clause++) {
                if (!(ordersLanguage ? orderClause() : lawClause())) {
                    return false;
                }
                if (takes(Tokens.IF)) {
                    text.setEntry(Text.TEST, text.length);
                    if (!test(0)) {
                        return false;
                    }
                    text.addStep(Machine.STOP, 0);
                }
                if (present() == Tokens.END) {
                    return true;
                }
                if (!takes(';')) {
                    return fails();
                }
            }
            return fails();
        }

        private boolean lawClause() {
            if (takes(Tokens.BARS)) {
                text.addClause(BARS);
                return true;
            }
            if (!takes(Tokens.COSTS)) {
                return fails();
            }
            text.addClause(COSTS);
            return wholeSum(Text.FIRST);
        }

        private boolean orderClause() {
            int act = present() - Tokens.ACTS;
            if (act < PUT || act > BEGIN) {
                return fails();
            }
            token++;
            text.addClause(act);
            if (act != BEGIN && !wholeSum(Text.FIRST)) {
                return false;
            }
            if (act == PUT) {
                if (!takes(Tokens.AS)) {
                    return fails();
                }
                if (!wholeSum(Text.SECOND)) {
                    return false;
                }
            }
            if (takes(Tokens.TIMES)) {
                int times = numberWithin(1, MOST_TIMES);
                if (times == NONE) {
                    return fails();
                }
                text.setEntry(Text.TIMES, times);
                token++;
            }
            return true;
        }

        private boolean wholeSum(int entry) {
            text.setEntry(entry, text.length);
            if (!sum(0)) {
                return false;
            }
            text.addStep(Machine.STOP, 0);
            return true;
        }

        /** TEST and BOTH; open: how many brackets stand around it. */
        private boolean test(int open) {
            int orStep = NONE;
            for (int ors = 0; ors < TAPE_ROOM; ors++) {
                int andStep = NONE;
                for (int ands = 0; ands < TAPE_ROOM; ands++) {
                    if (!plain(open)) {
                        return false;
                    }
                    text.landHere(andStep);
                    if (!takes(Tokens.AND)) {
                        break;
                    }
                    andStep = text.addStep(Machine.NOT_SO_PAST, 0);
                }
                text.landHere(orStep);
                if (!takes(Tokens.OR)) {
                    return true;
                }
                orStep = text.addStep(Machine.SO_PAST, 0);
            }
            return fails();
        }

        private boolean plain(int open) {
            boolean turned = false;
            for (int nots = 0; nots < TAPE_ROOM && takes(Tokens.NOT); nots++) {
                turned = !turned;
            }
            if (present() == '(') {
                if (open >= MOST_BRACKETS) {
                    return fails();
                }
                token++;
                if (!test(open + 1)) {
                    return false;
                }
                if (!takes(')')) {
                    return fails();
                }
            } else {
                if (!sum(open)) {
                    return false;
                }
                int sign = present();
                if (sign != '<' && sign != '>' && sign != '=') {
                    return fails();
                }
                token++;
                if (!sum(open)) {
                    return false;
                }
                text.addStep(sign, 0);
            }
            if (turned) {
                text.addStep(Machine.NOT, 0);
            }
            return true;
        }

        /** SUM and TERM: a sign that binds more loosely waits till the TERM behind it ends. */
        private boolean sum(int open) {
            int looseSign = NONE;
            for (int addends = 0; addends < TAPE_ROOM; addends++) {
                int tightSign = NONE;
                for (int factors = 0; factors < TAPE_ROOM; factors++) {
                    if (!part(open)) {
                        return false;
                    }
                    if (tightSign != NONE) {
                        text.addStep(tightSign, 0);
                    }
                    tightSign = present();
                    if (tightSign != '*' && tightSign != '/' && tightSign != '%') {
                        break;
                    }
                    token++;
                }
                if (looseSign != NONE) {
                    text.addStep(looseSign, 0);
                }
                looseSign = present();
                if (looseSign != '+' && looseSign != '-') {
                    return true;
                }
                token++;
            }
            return fails();
        }

        private boolean part(int open) {
            int kind = present();
            if (kind == '[') {
                if (open >= MOST_BRACKETS) {
                    return fails();
                }
                token++;
                if (!sum(open + 1)) {
                    return false;
                }
                return takes(']') || fails();
            }
            if (parts >= MOST_PARTS) {
                return fails();
            }
            parts++;
            if (kind >= Tokens.WORDS && kind < Tokens.WORDS_END) {
                text.addStep(Machine.WORD, kind - Tokens.WORDS);
                token++;
                return true;
            }
            if (takes(Tokens.AT)) {
                return number(Machine.WORD, WORDS_AT, PROCESSORS - 1);
            }
            if (takes(Tokens.VALUE)) {
                return number(Machine.WORD, WORDS_VALUE, KEYS - 1);
            }
            return number(Machine.NUMBER, 0, MOST_NUMBER);
        }

        /** A step by a NUMBER: itself, or the word's place that lies so far behind the first. */
        private boolean number(int step, int first, int most) {
            int number = numberWithin(0, most);
            if (number == NONE) {
                return fails();
            }
            text.addStep(step, first + number);
            token++;
            return true;
        }

        /** The NUMBER that stands there; NONE, if it is none, or not within these. */
        private int numberWithin(int least, int most) {
            if (token < 0 || token >= Tokens.ROOM || tokens.kinds[token] != Tokens.NUMBER) {
                return NONE;
            }
            int number = tokens.numbers[token];
            return number >= least && number <= most ? number : NONE;
        }

        private int present() {
            return token >= 0 && token < Tokens.ROOM ? tokens.kinds[token] : Tokens.END;
        }

        private boolean takes(int kind) {
            boolean there = token >= 0 && token < Tokens.ROOM && tokens.kinds[token] == kind;
            token += there ? 1 : 0;
            return there;
        }

        private boolean fails() {
            fault = token >= 0 && token < Tokens.ROOM ? tokens.starts[token] : 0;
            return false;
        }
    }
}
