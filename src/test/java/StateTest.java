/** Promises 1 to 8: a new object, and what stands in it. */
public final class StateTest {
    private static final Check CHECK = new Check("StateTest");

    public static void main(String[] args) {
        newObject();
        readers();
        cells();
        listAndFind();
        nodes();
        oldCells();
        terms();
        CHECK.report();
    }

    private static void newObject() {
        GraceTree x = new GraceTree();
        CHECK.due("NONE", GraceTree.NONE, -1);
        for (int p = 0; p < 8; p++) {
            CHECK.due("of(p, 0)", x.of(p, 0), 0);
            CHECK.due("of(p, 1)", x.of(p, 1), -1);
            CHECK.due("of(p, 2)", x.of(p, 2), 0);
            CHECK.due("of(p, 3)", x.of(p, 3), 0);
            CHECK.due("of(p, 4)", x.of(p, 4), 1);
        }
        for (int c = 0; c < 24; c++) {
            CHECK.due("cell(c, 0)", x.cell(c, 0), 0);
            CHECK.due("cell(c, 3)", x.cell(c, 3), -1);
        }
        int[] counts = {0, 0, 0, 0, 0, 0, 0, 0, 0, 0, 0, 0, 0, 0, 0, -1, 0, 1, 0};
        for (int i = 0; i < counts.length; i++) {
            CHECK.due("count(" + i + ")", x.count(i), counts[i]);
        }
        CHECK.due("status()", x.status(), 0);
        CHECK.due("tears()", x.tears(), 0);
        CHECK.due("fault()", x.fault(), -1);
        CHECK.due("stopped()", x.stopped(), -1);
    }

    private static void readers() {
        GraceTree x = new GraceTree();
        x.put(5, 50);
        x.put(7, 70);
        x.enter(3);
        CHECK.due("of(3, 0)", x.of(3, 0), 1);
        CHECK.due("of(3, 1) at a cell", x.of(3, 1), 0);
        CHECK.due("of(3, 2) not parked", x.of(3, 2), 0);
        x.step(3);
        CHECK.due("of(3, 1) behind a step", x.of(3, 1), 1);
        x.step(3);
        CHECK.due("of(3, 0) at the end", x.of(3, 0), 1);
        CHECK.due("of(3, 1) at the end", x.of(3, 1), -1);
        x.park(3);
        CHECK.due("of(3, 2) parked", x.of(3, 2), 1);
        CHECK.due("of(3, 3) without a grace", x.of(3, 3), 0);
        x.drop(5);
        x.begin();
        CHECK.due("of(3, 3) parked as it begins", x.of(3, 3), 1);
        CHECK.due("of(3, 4)", x.of(3, 4), 0);
        x.tick(3);
        CHECK.due("of(3, 4) reported", x.of(3, 4), 1);
        CHECK.due("of(2, 4) not reported", x.of(2, 4), 0);
        x.leave(3);
        CHECK.due("of(3, 0) out", x.of(3, 0), 0);
        CHECK.due("of(3, 3) out", x.of(3, 3), 0);
        CHECK.due("of(-1, 0)", x.of(-1, 0), -1);
        CHECK.due("of(8, 0)", x.of(8, 0), -1);
        CHECK.due("of(0, 5)", x.of(0, 5), -1);
        CHECK.due("of(0, -1)", x.of(0, -1), -1);
        CHECK.due("of(min, max)", x.of(Integer.MIN_VALUE, Integer.MAX_VALUE), -1);
        CHECK.due("status is not of askers", x.status(), 0);
        CHECK.due("askers are not refused", x.count(10), 0);
    }

    private static void cells() {
        GraceTree x = new GraceTree();
        x.put(99, 999);
        x.put(0, 0);
        CHECK.due("cell(0, 0)", x.cell(0, 0), 1);
        CHECK.due("cell(0, 1)", x.cell(0, 1), 99);
        CHECK.due("cell(0, 2)", x.cell(0, 2), 999);
        CHECK.due("cell(0, 3)", x.cell(0, 3), -1);
        CHECK.due("cell(1, 1)", x.cell(1, 1), 0);
        CHECK.due("cell(1, 2)", x.cell(1, 2), 0);
        CHECK.due("cell(1, 3)", x.cell(1, 3), 0);
        x.drop(0);
        CHECK.due("an old cell", x.cell(1, 0), 2);
        CHECK.due("its key stays", x.cell(1, 1), 0);
        CHECK.due("its next stays", x.cell(1, 3), 0);
        x.begin();
        x.hurry();
        CHECK.due("a cell that is free again", x.cell(1, 0), 0);
        CHECK.due("its key", x.cell(1, 1), -1);
        CHECK.due("its value", x.cell(1, 2), -1);
        CHECK.due("its next", x.cell(1, 3), -1);
        CHECK.due("cell(0, 4)", x.cell(0, 4), -1);
        CHECK.due("cell(0, -1)", x.cell(0, -1), -1);
        CHECK.due("cell(-1, 0)", x.cell(-1, 0), -1);
        CHECK.due("cell(24, 0)", x.cell(24, 0), -1);
    }

    private static void listAndFind() {
        GraceTree x = new GraceTree();
        x.put(50, 1);
        x.put(10, 2);
        x.put(30, 3);
        int[] order = {1, 2, 0, -1};
        for (int i = 0; i < order.length; i++) {
            CHECK.due("list(" + i + ")", x.list(i), order[i]);
        }
        CHECK.due("list(-1)", x.list(-1), -1);
        CHECK.due("list(24)", x.list(24), -1);
        CHECK.due("list(max)", x.list(Integer.MAX_VALUE), -1);
        CHECK.due("find(30)", x.find(30), 3);
        CHECK.due("find(31)", x.find(31), -1);
        CHECK.due("find(-1)", x.find(-1), -1);
        CHECK.due("find(100)", x.find(100), -1);
        x.drop(30);
        CHECK.due("find of an old one", x.find(30), -1);
        for (int k = 0; k < 24; k++) {
            x.put(k, k);
        }
        CHECK.due("a full row of cells", x.count(0), 22);
        CHECK.due("its last", x.list(21), 0);
        CHECK.due("behind it", x.list(22), -1);
    }

    private static void nodes() {
        GraceTree x = new GraceTree();
        CHECK.due("node(1) with no grace", x.node(1), 0);
        x.put(1, 1);
        x.drop(1);
        x.begin();
        for (int n = 1; n <= 7; n++) {
            CHECK.due("node(" + n + ")", x.node(n), 3);
        }
        x.tick(6);
        CHECK.due("node(7), the lower one", x.node(7), 2);
        x.tick(7);
        CHECK.due("node(7), both", x.node(7), 0);
        CHECK.due("node(3), the higher one", x.node(3), 1);
        x.tick(5);
        CHECK.due("node(6), the higher one", x.node(6), 1);
        x.tick(4);
        CHECK.due("node(3), both", x.node(3), 0);
        CHECK.due("node(1), the higher one", x.node(1), 1);
        x.hurry();
        CHECK.due("node(1) behind it", x.node(1), 0);
        CHECK.due("node(0)", x.node(0), -1);
        CHECK.due("node(8)", x.node(8), -1);
        CHECK.due("node(-1)", x.node(-1), -1);
    }

    private static void oldCells() {
        GraceTree x = new GraceTree();
        x.put(1, 1);
        x.put(2, 2);
        x.put(3, 3);
        x.drop(3);
        x.put(1, 4);
        CHECK.due("old(0, 0)", x.old(0, 0), 2);
        CHECK.due("old(0, 1)", x.old(0, 1), 0);
        CHECK.due("old(0, 2)", x.old(0, 2), -1);
        CHECK.due("old(1, 0)", x.old(1, 0), -1);
        x.begin();
        x.drop(2);
        CHECK.due("old(1, 0) now", x.old(1, 0), 2);
        CHECK.due("old(1, 1) now", x.old(1, 1), 0);
        CHECK.due("old(1, 2) now", x.old(1, 2), -1);
        CHECK.due("old(0, 0) now", x.old(0, 0), 1);
        CHECK.due("old(0, 1) now", x.old(0, 1), -1);
        CHECK.due("old(0, -1)", x.old(0, -1), -1);
        CHECK.due("old(1, -1)", x.old(1, -1), -1);
        CHECK.due("old(2, 0)", x.old(2, 0), -1);
        CHECK.due("old(-1, 0)", x.old(-1, 0), -1);
        CHECK.due("old(0, 24)", x.old(0, 24), -1);
    }

    private static void terms() {
        GraceTree x = new GraceTree();
        CHECK.due("terms(0, 999)", x.terms(0, 999), 0);
        CHECK.due("terms(0, 7)", x.terms(0, 7), 999);
        CHECK.due("terms(1, 10)", x.terms(1, 10), 1);
        CHECK.due("terms(1, 0)", x.terms(1, 0), 10);
        CHECK.due("terms(2, 9)", x.terms(2, 9), 0);
        CHECK.due("terms(2, 3)", x.terms(2, 3), 9);
        int[][] wrong = {{0, 1000}, {0, -1}, {1, 11}, {1, -1}, {2, 10}, {2, -1}, {3, 0}, {-1, 0}, {3, -1}};
        for (int[] w : wrong) {
            CHECK.due("terms(" + w[0] + ", " + w[1] + ")", x.terms(w[0], w[1]), -1);
            CHECK.due("status()", x.status(), -1);
        }
        CHECK.due("count(10)", x.count(10), wrong.length);
        CHECK.due("count(16)", x.count(16), 7);
        CHECK.due("count(17)", x.count(17), 0);
        CHECK.due("count(18)", x.count(18), 3);
        x.put(1, 1);
        x.terms(0, 1000);
        CHECK.due("a refused one leaves what can be undone", x.count(8), 1);
        x.terms(2, 3);
        CHECK.due("one that is not does not", x.count(8), 0);
    }
}
