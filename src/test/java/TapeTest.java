/** Promises 9 to 12: the TAPE, ROWS, TEARS. */
public final class TapeTest {
    private static final Check CHECK = new Check("TapeTest");

    public static void main(String[] args) {
        feedAndEnd();
        bytesOfNumbers();
        rows();
        tornRows();
        barredRows();
        fullRows();
        CHECK.report();
    }

    private static void feedAndEnd() {
        GraceTree x = new GraceTree();
        CHECK.due("end(0) of nothing", x.end(0), 0);
        CHECK.due("end(1) of nothing", x.end(1), -1);
        for (int i = 1; i <= 20; i++) {
            CHECK.due("feed", x.feed(1, 2, 3, 4, 5), 20 * i);
        }
        CHECK.due("one more", x.feed(1, 2, 3, 4, 5), -1);
        CHECK.due("count(9)", x.count(9), 400);
        CHECK.due("end(401)", x.end(401), -1);
        CHECK.due("end(-1)", x.end(-1), -1);
        CHECK.due("end(400)", x.end(400), 400);
        CHECK.due("end(381)", x.end(381), 381);
        CHECK.due("no room for twenty", x.feed(1, 2, 3, 4, 5), -1);
        CHECK.due("end(380)", x.end(380), 380);
        CHECK.due("room for twenty", x.feed(1, 2, 3, 4, 5), 400);
        CHECK.due("end(0)", x.end(0), 0);
        CHECK.due("NONE is no refusal", x.status(), 0);
        CHECK.due("NONE is not counted", x.count(10), 0);
    }

    private static void bytesOfNumbers() {
        GraceTree x = new GraceTree();
        // bytes above 127 and numbers below 0 among them
        x.feed(0x01FF0280, 0x03000463, -1, 0, 0);
        x.end(8);
        CHECK.due("row()", x.row(), 4);
        CHECK.due("find(1)", x.find(1), 255);
        CHECK.due("find(2)", x.find(2), 128);
        CHECK.due("find(3)", x.find(3), 0);
        CHECK.due("find(4)", x.find(4), 99);
        x.feed(0, 0, 0, 0, 0x0507_0608);
        CHECK.due("the last number's bytes", x.row(), 10);
        CHECK.due("find(5)", x.find(5), 7);
        CHECK.due("find(6)", x.find(6), 8);
        CHECK.due("find(0)", x.find(0), 0);
    }

    private static void rows() {
        GraceTree x = new GraceTree();
        CHECK.due("row() of nothing", x.row(), -6);
        CHECK.due("status()", x.status(), -6);
        CHECK.due("count(14)", x.count(14), 1);
        x.put(50, 1);
        CHECK.due("refused: what can be undone stays", x.count(8), 1);
        CHECK.due("row()", Feeder.row(x, 9, 1, 8, 2, 9, 3), 3);
        CHECK.due("the tape is empty then", x.count(9), 0);
        CHECK.due("tears()", x.tears(), 0);
        CHECK.due("find(9)", x.find(9), 3);
        CHECK.due("count(0)", x.count(0), 3);
        CHECK.due("the first copy is old", x.old(0, 0), 1);
        CHECK.due("nothing can be undone", x.count(8), 0);
        CHECK.due("undo()", x.undo(), -3);
    }

    private static void tornRows() {
        GraceTree x = new GraceTree();
        CHECK.due("row()", Feeder.row(x, 99, 255, 100, 1, 255, 2, 7), 1);
        CHECK.due("tears()", x.tears(), 3);
        CHECK.due("find(99)", x.find(99), 255);
        CHECK.due("status()", x.status(), 0);
        CHECK.due("tears are not counted as calls", x.count(10), 0);
        CHECK.due("an empty one", x.row(), -6);
        CHECK.due("tears() of the latest that was not refused", x.tears(), 3);
        CHECK.due("one byte", Feeder.row(x, 5), 0);
        CHECK.due("tears()", x.tears(), 1);
        CHECK.due("a row that puts nothing undoes nothing either", x.count(8), 0);
        CHECK.due("a good one", Feeder.row(x, 5, 5), 1);
        CHECK.due("tears()", x.tears(), 0);
    }

    private static void barredRows() {
        GraceTree x = new GraceTree();
        Feeder.law(x, "bars if key % 2 = 1");
        x.force(0);
        CHECK.due("row()", Feeder.row(x, 1, 1, 2, 2, 3, 3), 1);
        CHECK.due("tears()", x.tears(), 2);
    }

    private static void fullRows() {
        GraceTree x = new GraceTree();
        int[] bytes = new int[60];
        for (int i = 0; i < 30; i++) {
            bytes[2 * i] = i;
            bytes[2 * i + 1] = i;
        }
        CHECK.due("row()", Feeder.row(x, bytes), 24);
        CHECK.due("tears()", x.tears(), 6);
    }
}
