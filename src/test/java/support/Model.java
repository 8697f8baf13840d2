import java.util.ArrayDeque;
import java.util.ArrayList;
import java.util.Arrays;
import java.util.HashMap;
import java.util.List;
import java.util.Map;
import java.util.TreeMap;

/**
 * The document once more, told in another way than the class: the LIST as a sorted map,
 * what REPORTED as flags from below, TEXTS as trees, BROKEN and FAULT as exceptions.
 */
final class Model {
    static final int NONE = -1;

    static final class Broken extends RuntimeException {
        private static final long serialVersionUID = 1L;
    }

    static final class Fault extends RuntimeException {
        private static final long serialVersionUID = 1L;
        final int place;

        Fault(int place) {
            this.place = place;
        }
    }

    /** What undo() gives back. */
    static final class State {
        TreeMap<Integer, Integer> live = new TreeMap<>();
        Map<Integer, Integer> keys = new HashMap<>();
        Map<Integer, Integer> values = new HashMap<>();
        Map<Integer, Integer> oldNext = new HashMap<>();
        List<Integer> waiting = new ArrayList<>();
        List<Integer> current = new ArrayList<>();
        boolean[] in = new boolean[8];
        boolean[] parked = new boolean[8];
        boolean[] held = new boolean[8];
        int[] at = new int[8];
        boolean runs;
        boolean[] quiet = new boolean[8];
        boolean[] passedOn = new boolean[8];
        int begun;
        int ended;
        int cost;
        int time;

        State copy() {
            State s = new State();
            s.live = new TreeMap<>(live);
            s.keys = new HashMap<>(keys);
            s.values = new HashMap<>(values);
            s.oldNext = new HashMap<>(oldNext);
            s.waiting = new ArrayList<>(waiting);
            s.current = new ArrayList<>(current);
            s.in = in.clone();
            s.parked = parked.clone();
            s.held = held.clone();
            s.at = at.clone();
            s.runs = runs;
            s.quiet = quiet.clone();
            s.passedOn = passedOn.clone();
            s.begun = begun;
            s.ended = ended;
            s.cost = cost;
            s.time = time;
            return s;
        }

        int kind(int cell) {
            return live.containsValue(cell) ? 1 : waiting.contains(cell) || current.contains(cell) ? 2 : 0;
        }

        int next(int cell) {
            if (oldNext.containsKey(cell)) {
                return oldNext.get(cell);
            }
            Map.Entry<Integer, Integer> higher = live.higherEntry(keys.get(cell));
            return higher == null ? NONE : higher.getValue();
        }

        int head() {
            return live.isEmpty() ? NONE : live.firstEntry().getValue();
        }

        List<Integer> path(int p) {
            List<Integer> cells = new ArrayList<>();
            for (int c = in[p] ? at[p] : NONE; c != NONE; c = next(c)) {
                cells.add(c);
            }
            return cells;
        }

        int where(int p) {
            return in[p] ? at[p] : NONE;
        }

        boolean reported(int p) {
            return !runs || quiet[p];
        }
    }

    static final class Undo {
        final int told;
        final State before;

        Undo(int told, State before) {
            this.told = told;
            this.before = before;
        }
    }

    static final class Kept {
        State state;
        List<Lang.Clause[]> laws;
        int force;
        int losses;
        int mood;
        List<int[]> seen;
    }

    State s = new State();
    List<Lang.Clause[]> laws = new ArrayList<>();
    int force = NONE;
    int losses = 1;
    int mood = 0;
    List<int[]> seen = new ArrayList<>();
    ArrayDeque<Undo> undos = new ArrayDeque<>();
    Kept[] images = new Kept[2];
    byte[] tape = new byte[0];
    int tears = 0;
    int fault = NONE;
    int stopped = NONE;
    int[] drawn;
    int status = 0;
    int[] refused = new int[7];

    private int tell(int answer) {
        status = Math.min(answer, 0);
        if (answer < 0) {
            refused[-answer]++;
        }
        return answer;
    }

    // ---- laws

    private Map<String, Integer> words(int node, int child, int many, int key, State t) {
        Map<String, Integer> w = new HashMap<>();
        w.put("node", node);
        w.put("level", node == NONE ? NONE : node == 1 ? 0 : node <= 3 ? 1 : 2);
        w.put("child", child);
        w.put("many", many);
        w.put("key", key);
        w.put("time", t.time);
        w.put("mood", mood);
        return w;
    }

    private static boolean so(Lang.Clause c, Map<String, Integer> w) {
        try {
            return c.test == null || c.test.value(w) != 0;
        } catch (Broken b) {
            return false;
        }
    }

    private int costs(Lang.Clause[] law, int node, int child, State t) {
        long cost = 1;
        if (law != null) {
            Map<String, Integer> w = words(node, child, t.current.size(), NONE, t);
            for (Lang.Clause c : law) {
                if (c.verb.equals("costs") && so(c, w)) {
                    try {
                        cost = Math.max(0, Math.min(99, c.sums.get(0).value(w)));
                    } catch (Broken b) {
                        continue;
                    }
                }
            }
        }
        return (int) cost;
    }

    private boolean barred(int key, State t) {
        if (force == NONE) {
            return false;
        }
        for (Lang.Clause c : laws.get(force)) {
            if (c.verb.equals("bars") && so(c, words(NONE, NONE, NONE, key, t))) {
                return true;
            }
        }
        return false;
    }

    // ---- acts on a state; below 0: refused, and nothing is changed

    int act(State t, int act, int a, int b) {
        if (act == 0) {
            return put(t, a, b);
        }
        if (act == 1) {
            return drop(t, a);
        }
        if (act == 7) {
            return begin(t);
        }
        if (act == 8) {
            return hurry(t);
        }
        if (a < 0 || a > 7) {
            return -1;
        }
        switch (act) {
            case 2:
                if (t.in[a]) {
                    return -3;
                }
                t.in[a] = true;
                t.parked[a] = false;
                t.at[a] = t.head();
                return t.at[a] + 1;
            case 3:
                if (!t.in[a] || t.parked[a] || t.at[a] == NONE) {
                    return -3;
                }
                t.at[a] = t.next(t.at[a]);
                return t.at[a] + 1;
            case 4:
                if (!t.in[a] || t.parked[a]) {
                    return -3;
                }
                t.parked[a] = true;
                t.held[a] = t.runs && !t.quiet[a];
                return (t.parked[a] ? 1 : 0) + (t.parked[a ^ 1] ? 1 : 0);
            case 5:
                return leave(t, a);
            default:
                return tick(t, a);
        }
    }

    private int put(State t, int key, int value) {
        if (key < 0 || key > 99 || value < 0 || value > 999) {
            return -1;
        }
        if (barred(key, t)) {
            return -3;
        }
        int fresh = 0;
        while (fresh < 24 && t.kind(fresh) != 0) {
            fresh++;
        }
        if (fresh == 24) {
            return -5;
        }
        Integer there = t.live.get(key);
        if (there != null) {
            t.oldNext.put(there, t.next(there));
            t.waiting.add(there);
        }
        t.live.put(key, fresh);
        t.keys.put(fresh, key);
        t.values.put(fresh, value);
        return fresh;
    }

    private int drop(State t, int key) {
        if (key < 0 || key > 99) {
            return -1;
        }
        Integer there = t.live.get(key);
        if (there == null) {
            return -3;
        }
        t.oldNext.put(there, t.next(there));
        t.live.remove(key);
        t.waiting.add(there);
        return there;
    }

    private int leave(State t, int p) {
        if (!t.in[p]) {
            return -3;
        }
        boolean wasHeld = t.held[p];
        t.in[p] = false;
        t.parked[p] = false;
        t.held[p] = false;
        return wasHeld ? look(t) : 0;
    }

    private int begin(State t) {
        if (t.runs || t.waiting.isEmpty()) {
            return -3;
        }
        t.runs = true;
        t.begun++;
        t.current = t.waiting;
        t.waiting = new ArrayList<>();
        t.quiet = new boolean[8];
        t.passedOn = new boolean[8];
        t.held = t.parked.clone();
        return t.begun;
    }

    private int tick(State t, int p) {
        if (t.in[p] && !t.parked[p]) {
            return -3;
        }
        if (t.reported(p)) {
            return 0;
        }
        t.cost += costs(force == NONE ? null : laws.get(force), 4 + p / 2, p % 2, t);
        t.quiet[p] = true;
        return look(t);
    }

    /** All nodes from below, since only those of one leaf can have something new. */
    private int look(State t) {
        for (int n = 7; n >= 2; n--) {
            boolean full;
            if (n >= 4) {
                int p = 2 * n - 8;
                full = t.quiet[p] && t.quiet[p + 1] && !t.held[p] && !t.held[p + 1];
            } else {
                full = t.passedOn[2 * n] && t.passedOn[2 * n + 1];
            }
            if (full && !t.passedOn[n]) {
                t.cost += costs(force == NONE ? null : laws.get(force), n / 2, n % 2, t);
                t.passedOn[n] = true;
            }
        }
        if (!t.passedOn[2] || !t.passedOn[3]) {
            return 0;
        }
        int freed = t.current.size();
        for (int c : t.current) {
            t.oldNext.remove(c);
        }
        t.current = new ArrayList<>();
        t.runs = false;
        t.ended++;
        t.time = Math.min(999, t.time + 1);
        begin(t);
        return freed;
    }

    private int hurry(State t) {
        if (!t.runs) {
            return -3;
        }
        int ended = t.ended;
        int freed = 0;
        for (int p = 0; p < 8; p++) {
            if (t.ended == ended && !t.quiet[p] && (!t.in[p] || t.parked[p])) {
                freed += tick(t, p);
            }
        }
        return freed;
    }

    private int keptAct(int act, int a, int b) {
        State before = s.copy();
        int answer = act(s, act, a, b);
        if (answer >= 0) {
            undos.addLast(new Undo(act, before));
            if (undos.size() > 16) {
                undos.removeFirst();
            }
        }
        return answer;
    }

    // ---- calls

    int doAct(int act, int a, int b) {
        return tell(keptAct(act, a, b));
    }

    int undo() {
        if (undos.isEmpty()) {
            return tell(-3);
        }
        Undo last = undos.removeLast();
        s = last.before;
        return tell(last.told);
    }

    int of(int p, int what) {
        if (p < 0 || p > 7) {
            return NONE;
        }
        int[] row = {s.in[p] ? 1 : 0, s.where(p), s.parked[p] ? 1 : 0,
            s.runs && s.held[p] ? 1 : 0, s.reported(p) ? 1 : 0};
        return what < 0 || what > 4 ? NONE : row[what];
    }

    int cell(int c, int what) {
        if (c < 0 || c > 23 || what < 0 || what > 3) {
            return NONE;
        }
        if (what == 0) {
            return s.kind(c);
        }
        if (s.kind(c) == 0) {
            return NONE;
        }
        return what == 1 ? s.keys.get(c) : what == 2 ? s.values.get(c) : s.next(c);
    }

    private static int ith(List<Integer> row, int i) {
        return i < 0 || i >= row.size() ? NONE : row.get(i);
    }

    int list(int i) {
        return ith(new ArrayList<>(s.live.values()), i);
    }

    int find(int key) {
        return s.live.containsKey(key) ? s.values.get(s.live.get(key)) : NONE;
    }

    int node(int n) {
        if (n < 1 || n > 7) {
            return NONE;
        }
        if (!s.runs) {
            return 0;
        }
        boolean[] from = n < 4 ? s.passedOn : s.quiet;
        int lower = n < 4 ? 2 * n : 2 * n - 8;
        return (from[lower] ? 0 : 1) + (from[lower + 1] ? 0 : 2);
    }

    int old(int which, int i) {
        return which == 0 ? ith(s.waiting, i) : which == 1 ? ith(s.current, i) : NONE;
    }

    int terms(int what, int value) {
        int[] most = {999, 10, 9};
        if (what < 0 || what > 2 || value < 0 || value > most[what]) {
            return tell(-1);
        }
        int was = what == 0 ? s.time : what == 1 ? losses : mood;
        s.time = what == 0 ? value : s.time;
        losses = what == 1 ? value : losses;
        mood = what == 2 ? value : mood;
        undos.clear();
        return tell(was);
    }

    int feed(int... five) {
        if (tape.length > 380) {
            return NONE;
        }
        int had = tape.length;
        tape = Arrays.copyOf(tape, had + 20);
        for (int i = 0; i < 20; i++) {
            tape[had + i] = (byte) (five[i / 4] >> 8 * (3 - i % 4));
        }
        return tape.length;
    }

    int end(int n) {
        if (n < 0 || n > tape.length) {
            return NONE;
        }
        tape = Arrays.copyOf(tape, n);
        return n;
    }

    int row() {
        if (tape.length == 0) {
            return tell(-6);
        }
        int puts = 0;
        tears = 0;
        for (int i = 0; i < tape.length; i += 2) {
            if (i + 1 < tape.length && put(s, tape[i] & 255, tape[i + 1] & 255) >= 0) {
                puts++;
            } else {
                tears++;
            }
        }
        tape = new byte[0];
        undos.clear();
        return tell(puts);
    }

    int law() {
        byte[] text = tape;
        tape = new byte[0];
        if (laws.size() == 6) {
            return tell(-5);
        }
        fault = NONE;
        try {
            laws.add(Lang.read(text, false));
        } catch (Fault f) {
            fault = f.place;
            return tell(-6);
        }
        return tell(laws.size() - 1);
    }

    int orders() {
        byte[] text = tape;
        tape = new byte[0];
        fault = NONE;
        stopped = NONE;
        Lang.Clause[] clauses;
        try {
            clauses = Lang.read(text, true);
        } catch (Fault f) {
            fault = f.place;
            return tell(-6);
        }
        State before = s.copy();
        ArrayDeque<Undo> undosBefore = new ArrayDeque<>(undos);
        int done = 0;
        int latest = NONE;
        for (int c = 0; c < clauses.length; c++) {
            for (int i = 0; i < clauses[c].times; i++) {
                Map<String, Integer> w = orderWords(done, latest);
                if (!so(clauses[c], w)) {
                    continue;
                }
                int answer;
                try {
                    int[] n = {0, 0};
                    for (int j = 0; j < clauses[c].sums.size(); j++) {
                        n[j] = (int) clauses[c].sums.get(j).value(w);
                    }
                    answer = keptAct(Lang.VERBS.indexOf(clauses[c].verb), n[0], n[1]);
                } catch (Broken b) {
                    answer = -3;
                }
                if (answer < 0) {
                    s = before;
                    undos = undosBefore;
                    stopped = c;
                    return tell(-3);
                }
                done++;
                latest = answer;
            }
        }
        return tell(done);
    }

    private Map<String, Integer> orderWords(int done, int latest) {
        Map<String, Integer> w = new HashMap<>();
        w.put("time", s.time);
        w.put("done", done);
        w.put("latest", latest);
        w.put("waits", s.waiting.size());
        w.put("graces", s.begun);
        for (int p = 0; p < 8; p++) {
            w.put("at" + p, s.where(p));
        }
        for (int k = 0; k < 100; k++) {
            w.put("value" + k, find(k));
        }
        return w;
    }

    int force(int law) {
        if (law < -1 || law >= laws.size()) {
            return tell(-2);
        }
        int was = force;
        force = law;
        status = 0;
        return was;
    }

    int sees(int p, int i) {
        return p < 0 || p > 7 ? NONE : ith(s.path(p), i);
    }

    int reach(int c) {
        if (c < 0 || c > 23) {
            return NONE;
        }
        int bits = 0;
        for (int p = 0; p < 8; p++) {
            bits |= s.path(p).contains(c) ? 1 << p : 0;
        }
        return bits;
    }

    int holders() {
        int bits = 0;
        for (int p = 0; p < 8; p++) {
            bits |= s.runs && (!s.quiet[p] || s.held[p]) ? 1 << p : 0;
        }
        return bits;
    }

    int why(int i) {
        List<Integer> row = new ArrayList<>();
        if (s.runs) {
            int n = 1;
            row.add(1);
            while (n < 4) {
                n = s.passedOn[2 * n] ? 2 * n + 1 : 2 * n;
                row.add(n);
            }
            int p = 2 * n - 8;
            row.add(!s.quiet[p] ? 10 + p : !s.quiet[p + 1] ? 11 + p : s.held[p] ? 20 + p : 21 + p);
        }
        return ith(row, i);
    }

    int least() {
        if (!s.runs) {
            return NONE;
        }
        int acts = 0;
        for (int p = 0; p < 8; p++) {
            acts += s.quiet[p] ? 0 : 1;
            acts += s.held[p] || s.in[p] && !s.parked[p] && !s.quiet[p] ? 1 : 0;
        }
        return acts;
    }

    int seen(int fact, int n) {
        if (fact < 0 || fact > 2 || n < 0 || n > 100) {
            return tell(-1);
        }
        if (seen.size() == 6) {
            return tell(-5);
        }
        seen.add(new int[] {fact, n});
        return tell(seen.size());
    }

    int forget() {
        int was = seen.size();
        seen = new ArrayList<>();
        return was;
    }

    private int fact(int p, int fact) {
        int[] row = {s.in[p] ? 1 : 0, s.parked[p] ? 1 : 0, s.where(p) == NONE ? 100 : s.keys.get(s.where(p))};
        return row[fact];
    }

    int canBe() {
        int bits = 255;
        for (int p = 0; p < 8; p++) {
            for (int[] one : seen) {
                bits &= fact(p, one[0]) == one[1] ? bits : ~(1 << p);
            }
        }
        return bits;
    }

    int ask(int what) {
        int best = NONE;
        int fewest = 100;
        for (int f = 0; f < 3 && canBe() != 0; f++) {
            Map<Integer, Integer> groups = new HashMap<>();
            int most = 0;
            for (int p = 0; p < 8; p++) {
                if ((canBe() >> p & 1) == 1) {
                    most = Math.max(most, groups.merge(fact(p, f), 1, Integer::sum));
                }
            }
            if (most < fewest) {
                best = f;
                fewest = most;
            }
        }
        return best == NONE || what < 0 || what > 1 ? NONE : what == 0 ? best : fewest;
    }

    long few(int k, int n) {
        if (k < 1 || k > 20 || n < 0 || n > 99) {
            return NONE;
        }
        long[] parts = {1_000_000_000_000L};
        for (int i = 0; i < n; i++) {
            long[] then = new long[parts.length + 1];
            for (int j = 0; j < parts.length; j++) {
                then[j] += parts[j] * (10 - losses) / 10;
                then[j + 1] += parts[j] * losses / 10;
            }
            parts = then;
        }
        long sum = 0;
        for (int j = 0; j < Math.min(k, parts.length); j++) {
            sum += parts[j];
        }
        return sum;
    }

    int compare(int law, int node, int child) {
        boolean can = law >= -1 && law < laws.size() && node >= 1 && node <= 7 && (child == 0 || child == 1);
        return can ? costs(law == NONE ? null : laws.get(law), node, child, s) : NONE;
    }

    int days(int seed, int n) {
        if (seed < 0 || seed > 1000000 || n < 1 || n > 60) {
            return tell(-1);
        }
        State t = s.copy();
        long draw = seed;
        int[] of = {8, 6, 9};
        for (int i = 0; i < n; i++) {
            int[] got = new int[3];
            for (int j = 0; j < 3; j++) {
                draw = (draw * 1103 + 12345) % 1000003;
                got[j] = (int) (draw % of[j]);
            }
            act(t, got[2], got[2] < 2 ? got[1] : got[0], got[0]);
        }
        drawn = new int[24];
        for (int c = 0; c < 24; c++) {
            drawn[c] = t.kind(c);
        }
        return tell(t.ended - s.ended);
    }

    int drawn(int c) {
        return drawn == null || c < 0 || c > 23 ? NONE : drawn[c];
    }

    int image(int k) {
        if (k < 0 || k > 1) {
            return tell(-1);
        }
        Kept kept = new Kept();
        kept.state = s.copy();
        kept.laws = new ArrayList<>(laws);
        kept.force = force;
        kept.losses = losses;
        kept.mood = mood;
        kept.seen = new ArrayList<>(seen);
        images[k] = kept;
        return tell(0);
    }

    int back(int k) {
        if (k < 0 || k > 1) {
            return tell(-1);
        }
        if (images[k] == null) {
            return tell(-2);
        }
        s = images[k].state.copy();
        laws = new ArrayList<>(images[k].laws);
        force = images[k].force;
        losses = images[k].losses;
        mood = images[k].mood;
        seen = new ArrayList<>(images[k].seen);
        undos.clear();
        return tell(0);
    }

    int count(int what) {
        int[] row = {s.live.size(), s.waiting.size(), s.current.size(), s.begun, s.runs ? 1 : 0, s.cost,
            seen.size(), laws.size(), undos.size(), tape.length, refused[1], refused[2], refused[3],
            refused[5], refused[6], force, s.time, losses, mood};
        return what < 0 || what >= row.length ? NONE : row[what];
    }
}
