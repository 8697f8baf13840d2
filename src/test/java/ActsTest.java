/** Promises 18 to 26: acts, the calls that do them. */
public final class ActsTest {
    private static final Check CHECK = new Check("ActsTest");

    public static void main(String[] args) {
        puts();
        drops();
        enters();
        steps();
        parks();
        leaves();
        ticks();
        begins();
        hurries();
        graceAfterGrace();
        numbersThatCannotBe();
        CHECK.report();
    }

    private static void puts() {
        GraceTree x = new GraceTree();
        CHECK.due("put(0, 0)", x.put(0, 0), 0);
        CHECK.due("put(99, 999)", x.put(99, 999), 1);
        CHECK.due("put(50, 5)", x.put(50, 5), 2);
        CHECK.due("what led to it", x.cell(0, 3), 2);
        CHECK.due("where it leads", x.cell(2, 3), 1);
        CHECK.due("a copy", x.put(50, 6), 3);
        CHECK.due("what led to the old one", x.cell(0, 3), 3);
        CHECK.due("where the copy leads", x.cell(3, 3), 1);
        CHECK.due("the old one leads where it did", x.cell(2, 3), 1);
        CHECK.due("a copy of the head", x.put(0, 7), 4);
        CHECK.due("the head", x.list(0), 4);
        CHECK.due("waiting", x.count(1), 2);
        for (int c = 5; c < 24; c++) {
            CHECK.due("put()", x.put(c, 1), c);
        }
        CHECK.due("no room", x.put(1, 1), -5);
        CHECK.due("no room for a copy", x.put(50, 7), -5);
        CHECK.due("status()", x.status(), -5);
        CHECK.due("count(13)", x.count(13), 2);
        CHECK.due("find(50)", x.find(50), 6);
        x.begin();
        CHECK.due("hurry()", x.hurry(), 2);
        CHECK.due("the lowest free one", x.put(1, 1), 0);
        CHECK.due("the next one", x.put(2, 1), 2);
        CHECK.due("no room again", x.put(3, 1), -5);
    }

    private static void drops() {
        GraceTree x = new GraceTree();
        x.put(1, 1);
        x.put(2, 2);
        x.put(3, 3);
        CHECK.due("drop(2)", x.drop(2), 1);
        CHECK.due("what led to it", x.cell(0, 3), 2);
        CHECK.due("its next stays", x.cell(1, 3), 2);
        CHECK.due("drop(2) again", x.drop(2), -3);
        CHECK.due("drop(1), the head", x.drop(1), 0);
        CHECK.due("the head", x.list(0), 2);
        CHECK.due("drop(3), the last", x.drop(3), 2);
        CHECK.due("count(0)", x.count(0), 0);
        CHECK.due("count(1)", x.count(1), 3);
        CHECK.due("status() behind it", x.status(), 0);
    }

    private static void enters() {
        GraceTree x = new GraceTree();
        CHECK.due("enter(0) at the end", x.enter(0), 0);
        x.put(5, 5);
        x.put(3, 3);
        CHECK.due("enter(7)", x.enter(7), 2);
        CHECK.due("enter(7) again", x.enter(7), -3);
        CHECK.due("the first stays at the end", x.of(0, 1), -1);
        x.park(7);
        CHECK.due("parked", x.enter(7), -3);
        x.leave(7);
        CHECK.due("enter(7) anew", x.enter(7), 2);
        CHECK.due("not parked", x.of(7, 2), 0);
    }

    private static void steps() {
        GraceTree x = new GraceTree();
        CHECK.due("out", x.step(0), -3);
        x.put(5, 5);
        x.put(3, 3);
        x.enter(0);
        CHECK.due("step(0)", x.step(0), 1);
        CHECK.due("to the end", x.step(0), 0);
        CHECK.due("at the end", x.step(0), -3);
        x.enter(1);
        x.park(1);
        CHECK.due("parked", x.step(1), -3);
        x.enter(2);
        x.drop(3);
        x.drop(5);
        CHECK.due("from an old one to an old one", x.step(2), 1);
        CHECK.due("cell(0, 0)", x.cell(0, 0), 2);
        CHECK.due("and to the end", x.step(2), 0);
    }

    private static void parks() {
        GraceTree x = new GraceTree();
        CHECK.due("out", x.park(0), -3);
        x.enter(0);
        CHECK.due("at the end, too", x.park(0), 1);
        CHECK.due("parked", x.park(0), -3);
        x.enter(2);
        CHECK.due("of another leaf", x.park(2), 1);
        x.enter(1);
        CHECK.due("both of the leaf", x.park(1), 2);
        x.enter(3);
        CHECK.due("both of the other one", x.park(3), 2);
        GraceTree y = new GraceTree();
        y.put(1, 1);
        y.drop(1);
        y.begin();
        y.tick(5);
        y.enter(5);
        y.enter(4);
        y.park(5);
        y.park(4);
        CHECK.due("not held: reported already", y.of(5, 3), 0);
        CHECK.due("held: not reported yet", y.of(4, 3), 1);
    }

    private static GraceTree grace() {
        GraceTree x = new GraceTree();
        x.put(1, 1);
        x.put(2, 2);
        x.drop(1);
        x.drop(2);
        return x;
    }

    private static void leaves() {
        GraceTree x = grace();
        CHECK.due("out", x.leave(0), -3);
        x.enter(0);
        CHECK.due("leave(0)", x.leave(0), 0);
        x.enter(6);
        x.park(6);
        x.begin();
        x.hurry();
        CHECK.due("held alone", x.holders(), 64);
        CHECK.due("leaf 7 has not reported", x.node(3), 2);
        CHECK.due("leave(6)", x.leave(6), 2);
        CHECK.due("count(4)", x.count(4), 0);
        CHECK.due("count(16)", x.count(16), 1);
        CHECK.due("count(5)", x.count(5), 14);
        GraceTree y = grace();
        y.enter(6);
        y.enter(7);
        y.park(6);
        y.park(7);
        y.begin();
        y.hurry();
        CHECK.due("one of two held", y.leave(6), 0);
        CHECK.due("node(3)", y.node(3), 2);
        CHECK.due("the other one", y.leave(7), 2);
        GraceTree z = grace();
        z.enter(1);
        z.begin();
        z.hurry();
        CHECK.due("not held, not reported", z.leave(1), 0);
        CHECK.due("holders()", z.holders(), 2);
        GraceTree w = grace();
        w.enter(1);
        w.park(1);
        w.begin();
        CHECK.due("held, not reported", w.leave(1), 0);
        w.enter(1);
        CHECK.due("held no more", w.of(1, 3), 0);
        CHECK.due("hurry() goes on without it", w.hurry(), 0);
        CHECK.due("holders()", w.holders(), 2);
    }

    private static void ticks() {
        GraceTree x = grace();
        CHECK.due("with no grace", x.tick(0), 0);
        CHECK.due("it can be undone", x.undo(), 6);
        x.begin();
        CHECK.due("tick(0)", x.tick(0), 0);
        CHECK.due("count(5)", x.count(5), 1);
        CHECK.due("reported already", x.tick(0), 0);
        CHECK.due("no second report", x.count(5), 1);
        x.enter(1);
        CHECK.due("in, not parked", x.tick(1), -3);
        CHECK.due("status()", x.status(), -3);
        x.park(1);
        CHECK.due("parked", x.tick(1), 0);
        CHECK.due("held: the leaf does not report", x.node(2), 3);
        CHECK.due("leave(1)", x.leave(1), 0);
        CHECK.due("then it does", x.node(2), 2);
        for (int p = 2; p < 7; p++) {
            CHECK.due("tick(p)", x.tick(p), 0);
        }
        CHECK.due("tick(7) ends it", x.tick(7), 2);
        CHECK.due("cell(0, 0)", x.cell(0, 0), 0);
        x.enter(3);
        CHECK.due("in, with no grace", x.tick(3), -3);
        GraceTree y = grace();
        y.begin();
        y.tick(0);
        y.enter(0);
        CHECK.due("in, reported already", y.tick(0), -3);
        y.hurry();
        CHECK.due("it does not hold this one", y.count(4), 0);
    }

    private static void begins() {
        GraceTree x = new GraceTree();
        CHECK.due("nothing waits", x.begin(), -3);
        x.put(1, 1);
        CHECK.due("nothing waits yet", x.begin(), -3);
        x.drop(1);
        CHECK.due("begin()", x.begin(), 1);
        x.put(2, 2);
        x.drop(2);
        CHECK.due("one runs", x.begin(), -3);
        x.hurry();
        CHECK.due("the next one began at once", x.count(3), 2);
        x.hurry();
        x.put(3, 3);
        x.drop(3);
        CHECK.due("the third", x.begin(), 3);
        CHECK.due("count(12)", x.count(12), 3);
    }

    private static void hurries() {
        GraceTree x = grace();
        CHECK.due("none runs", x.hurry(), -3);
        CHECK.due("status()", x.status(), -3);
        x.begin();
        x.enter(2);
        x.enter(4);
        x.park(4);
        CHECK.due("hurry()", x.hurry(), 0);
        CHECK.due("holders()", x.holders(), 4 + 16);
        CHECK.due("of(4, 4)", x.of(4, 4), 1);
        CHECK.due("of(2, 4)", x.of(2, 4), 0);
        CHECK.due("leave(4)", x.leave(4), 0);
        x.leave(2);
        CHECK.due("hurry() to its end", x.hurry(), 2);
        CHECK.due("none runs", x.hurry(), -3);
        CHECK.due("undo() of all its ticks", x.undo(), 8);
        CHECK.due("of(2, 4)", x.of(2, 4), 0);
        CHECK.due("count(2)", x.count(2), 2);
    }

    private static void graceAfterGrace() {
        GraceTree x = grace();
        x.terms(0, 998);
        x.begin();
        x.put(3, 3);
        x.drop(3);
        x.tick(0);
        x.enter(0);
        x.park(0);
        CHECK.due("it ends", x.hurry(), 2);
        CHECK.due("the next one runs", x.count(4), 1);
        CHECK.due("it is not hurried", x.holders(), 255);
        CHECK.due("the parked one is held now", x.of(0, 3), 1);
        CHECK.due("count(2)", x.count(2), 1);
        CHECK.due("count(16)", x.count(16), 999);
        x.leave(0);
        CHECK.due("hurry()", x.hurry(), 1);
        CHECK.due("the time stays", x.count(16), 999);
        CHECK.due("count(5)", x.count(5), 28);
    }

    private static void numbersThatCannotBe() {
        int[] processors = {-1, 8, Integer.MIN_VALUE, Integer.MAX_VALUE};
        GraceTree x = new GraceTree();
        for (int p : processors) {
            CHECK.due("enter", x.enter(p), -1);
            CHECK.due("step", x.step(p), -1);
            CHECK.due("park", x.park(p), -1);
            CHECK.due("leave", x.leave(p), -1);
            CHECK.due("tick", x.tick(p), -1);
        }
        int[][] puts = {{-1, 0}, {100, 0}, {0, -1}, {0, 1000}, {Integer.MAX_VALUE, Integer.MIN_VALUE}};
        for (int[] one : puts) {
            CHECK.due("put", x.put(one[0], one[1]), -1);
        }
        CHECK.due("drop(-1)", x.drop(-1), -1);
        CHECK.due("drop(100)", x.drop(100), -1);
        CHECK.due("status()", x.status(), -1);
        CHECK.due("count(10)", x.count(10), 20 + 5 + 2);
        CHECK.due("count(8)", x.count(8), 0);
    }
}
