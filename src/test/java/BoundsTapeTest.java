/** Boundary cases of promises 9 to 12, one by one: the TAPE, ROWS, TEARS. */
public final class BoundsTapeTest {
    private static final int MIN = Integer.MIN_VALUE;
    private static final int MAX = Integer.MAX_VALUE;

    public static void main(String[] args) {
        Cases.run(BoundsTapeTest.class);
    }

    private static GraceTree tape(int bytes) {
        GraceTree x = new GraceTree();
        Feeder.feed(x, new byte[bytes]);
        return x;
    }

    // ---- 9: feed

    /** II: "a TAPE of at most 400 bytes". */
    static void promise09FourHundredBytesFit(Check c) {
        GraceTree x = new GraceTree();
        for (int i = 1; i <= 20; i++) {
            c.due("feed " + i, x.feed(0, 0, 0, 0, 0), 20 * i);
        }
        c.due("count(9)", x.count(9), 400);
    }

    /** "NONE, if there would be more than 400." */
    static void promise09NoMoreThanFourHundred(Check c) {
        GraceTree x = tape(400);
        c.due("feed on a full tape", x.feed(1, 1, 1, 1, 1), -1);
        c.due("nothing came", x.count(9), 400);
    }

    static void promise09JustRoomForTwenty(Check c) {
        GraceTree x = tape(380);
        c.due("feed behind 380", x.feed(1, 1, 1, 1, 1), 400);
    }

    static void promise09OneByteTooFewForTwenty(Check c) {
        GraceTree x = tape(381);
        c.due("feed behind 381", x.feed(1, 1, 1, 1, 1), -1);
        c.due("nothing came", x.count(9), 381);
    }

    /** "four of each number, the highest first". */
    static void promise09TheHighestByteFirst(Check c) {
        GraceTree x = new GraceTree();
        x.feed(0x01020304, 0x05060708, 0x090A0B0C, 0x0D0E0F10, 0x11121314);
        c.due("row()", x.row(), 10);
        for (int i = 0; i < 10; i++) {
            c.due("find(" + (2 * i + 1) + ")", x.find(2 * i + 1), 2 * i + 2);
        }
    }

    static void promise09NumbersBelow0AreBytesToo(Check c) {
        GraceTree x = new GraceTree();
        x.feed(0x01FF0280, MIN, -1, MAX, 0x63FF6300);
        x.end(4);
        c.due("row()", x.row(), 2);
        c.due("find(1)", x.find(1), 255);
        c.due("find(2)", x.find(2), 128);
        x.feed(MIN, -1, MAX, 0, 0);
        x.end(12);
        // (128, 0), (0, 0), (255, 255), (255, 255), (127, 255), (255, 255)
        c.due("row()", x.row(), 1);
        c.due("tears()", x.tears(), 5);
        c.due("find(0)", x.find(0), 0);
    }

    /** NONE is no refusal: neither status() nor count(10) know of it. */
    static void promise09NoneIsNoRefusal(Check c) {
        GraceTree x = tape(400);
        x.hurry();
        x.feed(1, 1, 1, 1, 1);
        c.due("status()", x.status(), -3);
        c.due("count(10)", x.count(10), 0);
        c.due("count(13)", x.count(13), 0);
    }

    // ---- 10: end

    static void promise10AllBytes(Check c) {
        GraceTree x = tape(20);
        c.due("end(20)", x.end(20), 20);
        c.due("count(9)", x.count(9), 20);
        c.due("end(400) of a full tape", tape(400).end(400), 400);
    }

    /** "NONE, if it has not so many, or n is below 0." */
    static void promise10NotSoMany(Check c) {
        GraceTree x = tape(20);
        c.due("end(21)", x.end(21), -1);
        c.due("end(MAX)", x.end(MAX), -1);
        c.due("the tape stays", x.count(9), 20);
        c.due("end(401) of a full tape", tape(400).end(401), -1);
        c.due("end(1) of an empty tape", new GraceTree().end(1), -1);
    }

    static void promise10Below0(Check c) {
        GraceTree x = tape(20);
        c.due("end(-1)", x.end(-1), -1);
        c.due("end(MIN)", x.end(MIN), -1);
        c.due("the tape stays", x.count(9), 20);
    }

    static void promise10NoByteAtAll(Check c) {
        GraceTree x = tape(20);
        c.due("end(0)", x.end(0), 0);
        c.due("count(9)", x.count(9), 0);
        c.due("end(0) again", x.end(0), 0);
        c.due("end(1)", x.end(1), -1);
    }

    static void promise10TheFirstBytesStay(Check c) {
        GraceTree x = new GraceTree();
        x.feed(0x01020304, 0x05060708, 0, 0, 0);
        c.due("end(3)", x.end(3), 3);
        c.due("feed goes on behind them", x.feed(0x07000000, 0, 0, 0, 0), 23);
        c.due("end(4)", x.end(4), 4);
        c.due("row()", x.row(), 2);
        c.due("find(1)", x.find(1), 2);
        c.due("find(3)", x.find(3), 7);
    }

    static void promise10NoneIsNoRefusal(Check c) {
        GraceTree x = tape(20);
        x.hurry();
        x.end(-1);
        x.end(21);
        c.due("status()", x.status(), -3);
        c.due("count(10)", x.count(10), 0);
    }

    // ---- 11: row

    /** "-6 the TAPE is empty." */
    static void promise11AnEmptyTape(Check c) {
        Refusal.due(c, "row()", () -> Stands.keys(4), GraceTree::row, -6);
        Refusal.due(c, "row() behind end(0)", () -> {
            GraceTree x = tape(20);
            x.end(0);
            return x;
        }, GraceTree::row, -6);
    }

    static void promise11TheTapeIsEmptyThen(Check c) {
        GraceTree x = tape(20);
        c.due("row()", x.row(), 10);
        c.due("count(9)", x.count(9), 0);
        c.due("row() again", x.row(), -6);
    }

    /** IV: "one within which the TAPE ends is a TEAR". */
    static void promise11OneByteAlone(Check c) {
        GraceTree x = new GraceTree();
        c.due("row()", Feeder.row(x, 5), 0);
        c.due("status()", x.status(), 0);
        c.due("tears()", x.tears(), 1);
        c.due("count(0)", x.count(0), 0);
        c.due("count(9)", x.count(9), 0);
    }

    static void promise11AnOddByteBehindPairs(Check c) {
        GraceTree x = new GraceTree();
        c.due("row()", Feeder.row(x, 5, 50, 6), 1);
        c.due("tears()", x.tears(), 1);
        c.due("find(6)", x.find(6), -1);
    }

    /** "one that can't be (REFUSED by whatever)": by -1. */
    static void promise11KeysTo99(Check c) {
        GraceTree x = new GraceTree();
        c.due("row()", Feeder.row(x, 99, 1, 100, 2, 255, 3, 0, 4), 2);
        c.due("tears()", x.tears(), 2);
        c.due("find(99)", x.find(99), 1);
        c.due("find(0)", x.find(0), 4);
        c.due("a tear is no refused call", x.count(10), 0);
        c.due("status()", x.status(), 0);
    }

    static void promise11ValuesFrom0To255(Check c) {
        GraceTree x = new GraceTree();
        c.due("row()", Feeder.row(x, 1, 0, 2, 255), 2);
        c.due("find(1)", x.find(1), 0);
        c.due("find(2)", x.find(2), 255);
    }

    /** By -3: BARRED. */
    static void promise11BarredKeysAreTears(Check c) {
        GraceTree x = Stands.law("bars if key > 4");
        c.due("row()", Feeder.row(x, 4, 1, 5, 1, 3, 1), 2);
        c.due("tears()", x.tears(), 1);
        c.due("count(12)", x.count(12), 0);
    }

    /** By -5: no CELL is FREE. */
    static void promise11NoRoomIsATear(Check c) {
        GraceTree x = new GraceTree();
        int[] bytes = new int[50];
        for (int i = 0; i < 50; i++) {
            bytes[i] = i / 2;
        }
        c.due("row()", Feeder.row(x, bytes), 24);
        c.due("tears()", x.tears(), 1);
        c.due("count(13)", x.count(13), 0);
        c.due("count(0)", x.count(0), 24);
    }

    static void promise11OneKeyTwice(Check c) {
        GraceTree x = new GraceTree();
        c.due("row()", Feeder.row(x, 5, 1, 5, 2), 2);
        c.due("find(5)", x.find(5), 2);
        c.due("the first is old", x.old(0, 0), 0);
    }

    static void promise11FourHundredBytes(Check c) {
        GraceTree x = tape(398);
        x.end(380);
        x.feed(0, 0, 0, 0, 0x00000507);
        // 199 times KEY 0 with VALUE 0, of which 24 find a CELL; none is left for KEY 5
        c.due("row()", x.row(), 24);
        c.due("tears()", x.tears(), 176);
        c.due("find(5)", x.find(5), -1);
        GraceTree y = new GraceTree();
        byte[] bytes = new byte[400];
        java.util.Arrays.fill(bytes, (byte) 200);
        bytes[398] = 5;
        bytes[399] = 7;
        Feeder.feed(y, bytes);
        c.due("row() to its last byte", y.row(), 1);
        c.due("find(5)", y.find(5), 7);
        c.due("tears()", y.tears(), 199);
    }

    static void promise11ARowOfTearsAloneIsNotRefused(Check c) {
        GraceTree x = new GraceTree();
        c.due("row()", Feeder.row(x, 200, 1, 201, 2), 0);
        c.due("status()", x.status(), 0);
        c.due("count(14)", x.count(14), 0);
    }

    // ---- 12: tears

    /** "0 ahead of any". */
    static void promise12AheadOfAny(Check c) {
        c.due("tears()", new GraceTree().tears(), 0);
        GraceTree x = new GraceTree();
        x.row();
        c.due("behind a refused one alone", x.tears(), 0);
    }

    /** "the latest row() that was not REFUSED". */
    static void promise12ARefusedRowLeavesThem(Check c) {
        GraceTree x = new GraceTree();
        Feeder.row(x, 100, 1, 100);
        c.due("tears()", x.tears(), 2);
        x.row();
        c.due("behind a refused one", x.tears(), 2);
    }

    static void promise12TheLatestAlone(Check c) {
        GraceTree x = new GraceTree();
        Feeder.row(x, 100, 1, 100);
        Feeder.row(x, 200, 1);
        c.due("tears()", x.tears(), 1);
        Feeder.row(x, 20, 1);
        c.due("none", x.tears(), 0);
    }

    static void promise12BackLeavesThem(Check c) {
        GraceTree x = new GraceTree();
        x.image(0);
        Feeder.row(x, 100, 1, 100);
        x.back(0);
        c.due("tears()", x.tears(), 2);
    }
}
