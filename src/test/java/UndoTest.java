/** Promise 27: acts taken back. */
public final class UndoTest {
    private static final Check CHECK = new Check("UndoTest");

    public static void main(String[] args) {
        eachKind();
        sixteen();
        whatEndsIt();
        whatStays();
        aWholeGrace();
        cellsAndReaders();
        orderByOrder();
        CHECK.report();
    }

    private static void eachKind() {
        GraceTree x = new GraceTree();
        x.put(1, 1);
        x.drop(1);
        x.enter(0);
        x.leave(0);
        x.put(2, 2);
        x.enter(0);
        x.step(0);
        x.park(0);
        x.tick(0);
        x.begin();
        x.hurry();
        int[] told = {8, 7, 6, 4, 3, 2, 0, 5, 2, 1, 0};
        for (int t : told) {
            CHECK.due("undo()", x.undo(), t);
            CHECK.due("status()", x.status(), 0);
        }
        CHECK.due("undo() of nothing", x.undo(), -3);
        CHECK.due("status()", x.status(), -3);
        CHECK.due("count(12)", x.count(12), 1);
        CHECK.due("count(0)", x.count(0), 0);
        CHECK.due("cell(0, 0)", x.cell(0, 0), 0);
    }

    private static void sixteen() {
        GraceTree x = new GraceTree();
        for (int i = 0; i < 20; i++) {
            x.put(i, i);
            x.put(100, i);
        }
        CHECK.due("count(8)", x.count(8), 16);
        for (int i = 0; i < 16; i++) {
            CHECK.due("undo()", x.undo(), 0);
        }
        CHECK.due("no more", x.undo(), -3);
        CHECK.due("count(0)", x.count(0), 4);
        CHECK.due("find(3)", x.find(3), 3);
        CHECK.due("find(4)", x.find(4), -1);
        x.put(50, 1);
        CHECK.due("behind it anew", x.undo(), 0);
        CHECK.due("count(0)", x.count(0), 4);
    }

    private static void whatEndsIt() {
        GraceTree x = new GraceTree();
        x.put(1, 1);
        x.terms(1, 1);
        CHECK.due("behind terms()", x.undo(), -3);
        x.put(2, 1);
        Feeder.row(x, 200);
        CHECK.due("behind row()", x.undo(), -3);
        x.image(0);
        x.put(3, 1);
        x.back(0);
        CHECK.due("behind back()", x.undo(), -3);
        x.put(4, 1);
        x.terms(1, 11);
        x.row();
        x.back(1);
        x.back(2);
        CHECK.due("refused ones end nothing", x.undo(), 0);
    }

    private static void whatStays() {
        GraceTree x = new GraceTree();
        x.put(1, 1);
        Feeder.law(x, "costs 2");
        x.force(0);
        x.seen(0, 1);
        x.image(0);
        x.days(5, 20);
        x.forget();
        x.seen(1, 1);
        Feeder.feed(x, "abc");
        x.put(100, 1);
        CHECK.due("undo()", x.undo(), 0);
        CHECK.due("laws", x.count(7), 1);
        CHECK.due("force", x.count(15), 0);
        CHECK.due("seen", x.count(6), 1);
        CHECK.due("tape", x.count(9), 3);
        CHECK.due("refusals", x.count(10), 1);
    }

    private static void aWholeGrace() {
        GraceTree x = new GraceTree();
        x.put(1, 10);
        x.put(1, 11);
        x.enter(5);
        x.park(5);
        x.begin();
        x.drop(1);
        x.hurry();
        x.leave(5);
        CHECK.due("count(3)", x.count(3), 2);
        CHECK.due("count(16)", x.count(16), 1);
        CHECK.due("undo() of the leave that ended it", x.undo(), 5);
        CHECK.due("count(3)", x.count(3), 1);
        CHECK.due("count(16)", x.count(16), 0);
        CHECK.due("count(5)", x.count(5), 12);
        CHECK.due("of(5, 3)", x.of(5, 3), 1);
        CHECK.due("old(1, 0)", x.old(1, 0), 0);
        CHECK.due("old(0, 0)", x.old(0, 0), 1);
        CHECK.due("node(1)", x.node(1), 2);
        CHECK.due("cell(0, 2)", x.cell(0, 2), 10);
        CHECK.due("undo() of the hurry", x.undo(), 8);
        CHECK.due("count(5)", x.count(5), 0);
        CHECK.due("node(1)", x.node(1), 3);
        CHECK.due("undo() of the drop", x.undo(), 1);
        CHECK.due("find(1)", x.find(1), 11);
        CHECK.due("undo() of the begin", x.undo(), 7);
        CHECK.due("of(5, 3)", x.of(5, 3), 0);
        CHECK.due("count(1)", x.count(1), 1);
    }

    private static void cellsAndReaders() {
        GraceTree x = new GraceTree();
        x.put(1, 10);
        x.put(3, 30);
        x.enter(6);
        x.step(6);
        CHECK.due("of(6, 1)", x.of(6, 1), 1);
        CHECK.due("undo() of the step", x.undo(), 3);
        CHECK.due("of(6, 1)", x.of(6, 1), 0);
        CHECK.due("undo() of the enter", x.undo(), 2);
        CHECK.due("of(6, 0)", x.of(6, 0), 0);
        x.drop(1);
        CHECK.due("undo() of the drop", x.undo(), 1);
        CHECK.due("list(0)", x.list(0), 0);
        CHECK.due("cell(0, 0)", x.cell(0, 0), 1);
        CHECK.due("count(1)", x.count(1), 0);
        x.put(2, 20);
        CHECK.due("undo() of the put", x.undo(), 0);
        CHECK.due("what led to it", x.cell(0, 3), 1);
        CHECK.due("count(0)", x.count(0), 2);
        x.enter(6);
        x.park(6);
        CHECK.due("undo() of the park", x.undo(), 4);
        CHECK.due("of(6, 2)", x.of(6, 2), 0);
        x.leave(6);
        CHECK.due("undo() of the leave", x.undo(), 5);
        CHECK.due("of(6, 1)", x.of(6, 1), 0);
        x.drop(3);
        x.begin();
        x.leave(6);
        x.tick(6);
        CHECK.due("undo() of the tick", x.undo(), 6);
        CHECK.due("node(7)", x.node(7), 3);
        CHECK.due("count(5)", x.count(5), 0);
    }

    private static void orderByOrder() {
        GraceTree x = new GraceTree();
        Feeder.orders(x, "put 1 as 1; put 2 as 2; enter 0; step 0");
        x.undo();
        CHECK.due("of(0, 1)", x.of(0, 1), 0);
        x.undo();
        CHECK.due("of(0, 0)", x.of(0, 0), 0);
        x.undo();
        CHECK.due("find(2)", x.find(2), -1);
        CHECK.due("find(1)", x.find(1), 1);
    }
}
