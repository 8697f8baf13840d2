/** What several cases begin with. */
final class Stands {
    private Stands() {
    }

    /** KEYS in the LIST, in CELLS 0, 1 and so on, with ten times each as its VALUE. */
    static GraceTree keys(int... keys) {
        GraceTree x = new GraceTree();
        for (int key : keys) {
            x.put(key, 10 * key);
        }
        return x;
    }

    /** The LIST is empty, CELL 0 (KEY 1) is WAITING. */
    static GraceTree waiting() {
        GraceTree x = keys(1);
        x.drop(1);
        return x;
    }

    /** As waiting(), but the first GRACE RUNS, so it is CURRENT. */
    static GraceTree grace() {
        GraceTree x = waiting();
        x.begin();
        return x;
    }

    /** A GRACE RUNS that PROCESSOR 7 alone has not REPORTED to. */
    static GraceTree graceButSeven() {
        GraceTree x = grace();
        for (int p = 0; p < 7; p++) {
            x.tick(p);
        }
        return x;
    }

    /** All CELLS are LIVE, KEYS 0 .. 23 in CELLS of the same numbers. */
    static GraceTree full() {
        GraceTree x = new GraceTree();
        for (int key = 0; key < 24; key++) {
            x.put(key, key);
        }
        return x;
    }

    /** A LAW is in FORCE, nothing else. */
    static GraceTree law(String text) {
        GraceTree x = new GraceTree();
        Feeder.law(x, text);
        x.force(0);
        return x;
    }

    /** Six LAWS: LAW i costs i. */
    static GraceTree sixLaws() {
        GraceTree x = new GraceTree();
        for (int i = 0; i < 6; i++) {
            Feeder.law(x, "costs " + i);
        }
        return x;
    }

    static String many(String one, String between, int n) {
        StringBuilder b = new StringBuilder();
        for (int i = 0; i < n; i++) {
            b.append(i > 0 ? between : "").append(one);
        }
        return b.toString();
    }
}
