/** Boundary cases of promises 18 to 26, one by one: the acts. */
public final class BoundsActsTest {
    private static final int MIN = Integer.MIN_VALUE;
    private static final int MAX = Integer.MAX_VALUE;
    private static final int[] NO_PROCESSORS = {-1, 8, 32, MIN, MAX};

    public static void main(String[] args) {
        Cases.run(BoundsActsTest.class);
    }

    private static void listIs(Check c, GraceTree x, int... cells) {
        for (int i = 0; i < cells.length; i++) {
            c.due("list(" + i + ")", x.list(i), cells[i]);
        }
        c.due("list(" + cells.length + ")", x.list(cells.length), -1);
    }

    /** READER 3 is IN at CELL 0, READER 5 at the END. */
    private static GraceTree readers() {
        GraceTree x = new GraceTree();
        x.enter(5);
        x.put(4, 40);
        x.enter(3);
        return x;
    }

    // ---- 18: put

    /** I: "KEY 0 .. 99". */
    static void promise18KeysFrom0To99(Check c) {
        GraceTree x = new GraceTree();
        c.due("put(0, 1)", x.put(0, 1), 0);
        c.due("put(99, 1)", x.put(99, 1), 1);
    }

    static void promise18KeyTooSmall(Check c) {
        Refusal.due(c, "put(-1, 1)", () -> Stands.keys(0), x -> x.put(-1, 1), -1);
        Refusal.due(c, "put(MIN, 1)", () -> Stands.keys(0), x -> x.put(MIN, 1), -1);
    }

    static void promise18KeyTooLarge(Check c) {
        Refusal.due(c, "put(100, 1)", () -> Stands.keys(99), x -> x.put(100, 1), -1);
        Refusal.due(c, "put(MAX, 1)", () -> Stands.keys(99), x -> x.put(MAX, 1), -1);
    }

    /** I: "VALUE 0 .. 999". */
    static void promise18ValuesFrom0To999(Check c) {
        GraceTree x = new GraceTree();
        c.due("put(1, 0)", x.put(1, 0), 0);
        c.due("put(2, 999)", x.put(2, 999), 1);
        c.due("find(1)", x.find(1), 0);
        c.due("find(2)", x.find(2), 999);
    }

    static void promise18ValueTooSmall(Check c) {
        Refusal.due(c, "put(4, -1)", () -> Stands.keys(4), x -> x.put(4, -1), -1);
        Refusal.due(c, "put(4, MIN)", () -> Stands.keys(4), x -> x.put(4, MIN), -1);
    }

    static void promise18ValueTooLarge(Check c) {
        Refusal.due(c, "put(4, 1000)", () -> Stands.keys(4), x -> x.put(4, 1000), -1);
        Refusal.due(c, "put(4, MAX)", () -> Stands.keys(4), x -> x.put(4, MAX), -1);
    }

    static void promise18AllCells(Check c) {
        GraceTree x = new GraceTree();
        for (int cell = 0; cell < 24; cell++) {
            c.due("put " + cell, x.put(3 * cell, 1), cell);
        }
        c.due("count(0)", x.count(0), 24);
    }

    /** "-5": no CELL is FREE, for a new KEY. */
    static void promise18NoRoom(Check c) {
        Refusal.due(c, "put(50, 1)", Stands::full, x -> x.put(50, 1), -5);
    }

    /** A copy needs a CELL of its own, too. */
    static void promise18NoRoomForACopy(Check c) {
        Refusal.due(c, "put(5, 1)", Stands::full, x -> x.put(5, 1), -5);
    }

    /** OLD CELLS are no room before a GRACE has ended. */
    static void promise18OldCellsAreNoRoom(Check c) {
        GraceTree x = Stands.full();
        x.drop(7);
        c.due("waiting", x.put(7, 1), -5);
        x.begin();
        c.due("current", x.put(7, 1), -5);
        x.hurry();
        c.due("free", x.put(7, 1), 7);
    }

    /** "-1; -3 (BARRED); -5", "The first of these in that order." */
    static void promise18ABadNumberComesFirst(Check c) {
        GraceTree x = Stands.full();
        Feeder.law(x, "bars");
        x.force(0);
        c.due("barred, no room, too large", x.put(100, 1), -1);
        c.due("barred, no room, value too large", x.put(50, 1000), -1);
    }

    static void promise18BarredComesAheadOfNoRoom(Check c) {
        GraceTree x = Stands.full();
        Feeder.law(x, "bars if key=50");
        x.force(0);
        c.due("barred, no room", x.put(50, 1), -3);
        c.due("no room", x.put(51, 1), -5);
    }

    /** III: "not BARRED (whether it is in the LIST or not)". */
    static void promise18BarredInTheListOrNot(Check c) {
        Refusal.due(c, "in the list", () -> {
            GraceTree x = Stands.keys(4);
            Feeder.law(x, "bars if key=4");
            x.force(0);
            return x;
        }, x -> x.put(4, 1), -3);
        Refusal.due(c, "not in it", () -> Stands.law("bars if key=4"), x -> x.put(4, 1), -3);
    }

    static void promise18BarredByTheLawInForceAlone(Check c) {
        GraceTree x = new GraceTree();
        Feeder.law(x, "bars");
        c.due("not in force", x.put(4, 1), 0);
        x.force(0);
        c.due("in force", x.put(5, 1), -3);
        x.force(-1);
        c.due("no more", x.put(5, 1), 1);
    }

    /** "a KEY is BARRED, if "bars" HOLDS": any of them. */
    static void promise18BarredByAnyClause(Check c) {
        GraceTree x = Stands.law("bars if key=0;costs 3;bars if key=99;bars if key=1/0");
        c.due("by the first", x.put(0, 1), -3);
        c.due("by the last that is whole", x.put(99, 1), -3);
        c.due("by none: one is broken", x.put(50, 1), 0);
        GraceTree y = Stands.law("costs 1/0");
        c.due("a broken sum bars nothing", y.put(50, 1), 0);
    }

    /** II: "(node, level, child, many -1)" of a KEY. */
    static void promise18NodeWordsOfAKeyAreNone(Check c) {
        for (String word : new String[] {"node", "level", "child", "many"}) {
            GraceTree x = Stands.law("bars if " + word + "=0-1 and key=4");
            c.due(word, x.put(4, 1), -3);
            c.due("another key", x.put(5, 1), 0);
        }
    }

    /** "the lowest FREE CELL". */
    static void promise18TheLowestFreeCell(Check c) {
        GraceTree x = Stands.keys(1, 2, 3, 4);
        x.drop(3);
        x.drop(2);
        x.begin();
        x.hurry();
        c.due("put(9, 1)", x.put(9, 1), 1);
        c.due("put(8, 1)", x.put(8, 1), 2);
        c.due("put(7, 1)", x.put(7, 1), 4);
    }

    static void promise18IntoAnEmptyList(Check c) {
        GraceTree x = new GraceTree();
        x.put(4, 1);
        listIs(c, x, 0);
        c.due("its next", x.cell(0, 3), -1);
    }

    static void promise18AheadOfTheHead(Check c) {
        GraceTree x = Stands.keys(4);
        x.put(3, 1);
        listIs(c, x, 1, 0);
    }

    static void promise18BehindTheLast(Check c) {
        GraceTree x = Stands.keys(4);
        x.put(5, 1);
        listIs(c, x, 0, 1);
    }

    static void promise18Between(Check c) {
        GraceTree x = Stands.keys(4, 6);
        x.put(5, 1);
        listIs(c, x, 0, 2, 1);
    }

    static void promise18ACopyOfTheHead(Check c) {
        GraceTree x = Stands.keys(4, 6);
        c.due("put(4, 1)", x.put(4, 1), 2);
        listIs(c, x, 2, 1);
        c.due("the old one's next stays", x.cell(0, 3), 1);
        c.due("it waits", x.old(0, 0), 0);
    }

    static void promise18ACopyOfTheLast(Check c) {
        GraceTree x = Stands.keys(4, 6);
        x.put(6, 1);
        listIs(c, x, 0, 2);
        c.due("the copy's next", x.cell(2, 3), -1);
        c.due("the old one's next", x.cell(1, 3), -1);
    }

    static void promise18ACopyOfTheOnlyOne(Check c) {
        GraceTree x = Stands.keys(4);
        x.put(4, 1);
        listIs(c, x, 1);
        c.due("count(0)", x.count(0), 1);
        c.due("count(1)", x.count(1), 1);
    }

    // ---- 19: drop

    static void promise19KeyTooSmall(Check c) {
        Refusal.due(c, "drop(-1)", () -> Stands.keys(0), x -> x.drop(-1), -1);
        Refusal.due(c, "drop(MIN)", () -> Stands.keys(0), x -> x.drop(MIN), -1);
    }

    static void promise19KeyTooLarge(Check c) {
        Refusal.due(c, "drop(100)", () -> Stands.keys(99), x -> x.drop(100), -1);
        Refusal.due(c, "drop(MAX)", () -> Stands.keys(99), x -> x.drop(MAX), -1);
    }

    static void promise19KeysFrom0To99(Check c) {
        GraceTree x = Stands.keys(99, 0);
        c.due("drop(0)", x.drop(0), 1);
        c.due("drop(99)", x.drop(99), 0);
    }

    /** "-3 it is not in the LIST." */
    static void promise19NotInTheList(Check c) {
        Refusal.due(c, "of an empty list", GraceTree::new, x -> x.drop(4), -3);
        Refusal.due(c, "ahead of all", () -> Stands.keys(4, 6), x -> x.drop(3), -3);
        Refusal.due(c, "between", () -> Stands.keys(4, 6), x -> x.drop(5), -3);
        Refusal.due(c, "behind all", () -> Stands.keys(4, 6), x -> x.drop(7), -3);
    }

    static void promise19NotInTheListAnyMore(Check c) {
        Refusal.due(c, "dropped", Stands::waiting, x -> x.drop(1), -3);
    }

    static void promise19TheHead(Check c) {
        GraceTree x = Stands.keys(4, 6, 8);
        c.due("drop(4)", x.drop(4), 0);
        listIs(c, x, 1, 2);
        c.due("its next stays", x.cell(0, 3), 1);
    }

    static void promise19TheLast(Check c) {
        GraceTree x = Stands.keys(4, 6, 8);
        c.due("drop(8)", x.drop(8), 2);
        listIs(c, x, 0, 1);
        c.due("what led to it", x.cell(1, 3), -1);
    }

    static void promise19OneBetween(Check c) {
        GraceTree x = Stands.keys(4, 6, 8);
        c.due("drop(6)", x.drop(6), 1);
        listIs(c, x, 0, 2);
        c.due("its next stays", x.cell(1, 3), 2);
    }

    static void promise19TheOnlyOne(Check c) {
        GraceTree x = Stands.keys(4);
        c.due("drop(4)", x.drop(4), 0);
        listIs(c, x);
        c.due("it waits", x.old(0, 0), 0);
    }

    static void promise19DropsAreNotBarred(Check c) {
        GraceTree x = Stands.keys(4);
        Feeder.law(x, "bars");
        x.force(0);
        c.due("drop(4)", x.drop(4), 0);
    }

    // ---- 20: enter

    static void promise20ProcessorsFrom0To7(Check c) {
        GraceTree x = Stands.keys(4);
        for (int p = 0; p < 8; p++) {
            c.due("enter(" + p + ")", x.enter(p), 1);
        }
    }

    static void promise20NoSuchProcessor(Check c) {
        for (int p : NO_PROCESSORS) {
            Refusal.due(c, "enter(" + p + ")", BoundsActsTest::readers, x -> x.enter(p), -1);
        }
    }

    /** "0 at the END." */
    static void promise20AnEmptyList(Check c) {
        GraceTree x = new GraceTree();
        c.due("enter(0)", x.enter(0), 0);
        c.due("in", x.of(0, 0), 1);
        x.put(4, 1);
        c.due("it stays at the end", x.of(0, 1), -1);
    }

    static void promise20OneMoreThanItsCell(Check c) {
        GraceTree x = Stands.full();
        c.due("cell 0", x.enter(0), 1);
        for (int key = 0; key < 23; key++) {
            x.drop(key);
        }
        c.due("cell 23", x.enter(1), 24);
    }

    /** "-3": it is IN, at a CELL, at the END, or PARKED. */
    static void promise20InAlready(Check c) {
        Refusal.due(c, "at a cell", BoundsActsTest::readers, x -> x.enter(3), -3);
        Refusal.due(c, "at the end", BoundsActsTest::readers, x -> x.enter(5), -3);
        Refusal.due(c, "parked", () -> {
            GraceTree x = readers();
            x.park(3);
            return x;
        }, x -> x.enter(3), -3);
    }

    static void promise20NotParkedThough(Check c) {
        GraceTree x = readers();
        x.park(3);
        x.leave(3);
        c.due("enter(3)", x.enter(3), 1);
        c.due("parked", x.of(3, 2), 0);
    }

    // ---- 21: step

    static void promise21NoSuchProcessor(Check c) {
        for (int p : NO_PROCESSORS) {
            Refusal.due(c, "step(" + p + ")", BoundsActsTest::readers, x -> x.step(p), -1);
        }
    }

    static void promise21FirstAndLastProcessor(Check c) {
        GraceTree x = Stands.keys(4, 6);
        x.enter(0);
        x.enter(7);
        c.due("step(0)", x.step(0), 2);
        c.due("step(7)", x.step(7), 2);
    }

    /** "0 at the END." */
    static void promise21ToTheEnd(Check c) {
        GraceTree x = readers();
        c.due("step(3)", x.step(3), 0);
        c.due("in", x.of(3, 0), 1);
        c.due("at the end", x.of(3, 1), -1);
    }

    /** "-3 (at the END already, too)". */
    static void promise21AtTheEndAlready(Check c) {
        Refusal.due(c, "step(5)", BoundsActsTest::readers, x -> x.step(5), -3);
        Refusal.due(c, "behind the last cell", () -> {
            GraceTree x = readers();
            x.step(3);
            return x;
        }, x -> x.step(3), -3);
    }

    static void promise21OneThatIsOut(Check c) {
        Refusal.due(c, "step(0)", BoundsActsTest::readers, x -> x.step(0), -3);
        Refusal.due(c, "out again", () -> {
            GraceTree x = readers();
            x.leave(3);
            return x;
        }, x -> x.step(3), -3);
    }

    static void promise21OneThatIsParked(Check c) {
        Refusal.due(c, "step(3)", () -> {
            GraceTree x = readers();
            x.park(3);
            return x;
        }, x -> x.step(3), -3);
    }

    static void promise21FromAnOldCellByItsNext(Check c) {
        GraceTree x = Stands.keys(4, 6, 8);
        x.enter(0);
        x.drop(4);
        x.drop(6);
        c.due("to an old one", x.step(0), 2);
        c.due("to a live one", x.step(0), 3);
        c.due("to the end", x.step(0), 0);
    }

    static void promise21AllCells(Check c) {
        GraceTree x = Stands.full();
        c.due("enter(0)", x.enter(0), 1);
        for (int cell = 1; cell < 24; cell++) {
            c.due("step(0)", x.step(0), cell + 1);
        }
        c.due("to the end", x.step(0), 0);
    }

    // ---- 22: park

    static void promise22NoSuchProcessor(Check c) {
        for (int p : NO_PROCESSORS) {
            Refusal.due(c, "park(" + p + ")", BoundsActsTest::readers, x -> x.park(p), -1);
        }
    }

    /** "how many READERS are PARKED at its LEAF then": of no other one. */
    static void promise22OneAndTwoAtEachLeaf(Check c) {
        GraceTree x = new GraceTree();
        for (int p = 0; p < 8; p++) {
            x.enter(p);
        }
        for (int p = 0; p < 8; p += 2) {
            c.due("park(" + p + ")", x.park(p), 1);
        }
        for (int p = 7; p > 0; p -= 2) {
            c.due("park(" + p + ")", x.park(p), 2);
        }
    }

    /** III: "one that is IN (at the END, too)". */
    static void promise22AtTheEnd(Check c) {
        GraceTree x = readers();
        c.due("park(5)", x.park(5), 1);
        c.due("parked", x.of(5, 2), 1);
    }

    static void promise22OneThatIsOut(Check c) {
        Refusal.due(c, "park(0)", BoundsActsTest::readers, x -> x.park(0), -3);
    }

    static void promise22ParkedAlready(Check c) {
        Refusal.due(c, "park(3)", () -> {
            GraceTree x = readers();
            x.park(3);
            return x;
        }, x -> x.park(3), -3);
    }

    /** III: "HELD, too, if a GRACE RUNS to which its PROCESSOR has not REPORTED". */
    static void promise22HeldIfNotReported(Check c) {
        GraceTree x = Stands.grace();
        x.enter(6);
        x.park(6);
        c.due("held", x.of(6, 3), 1);
    }

    static void promise22NotHeldIfReported(Check c) {
        GraceTree x = Stands.grace();
        x.tick(6);
        x.enter(6);
        x.park(6);
        c.due("parked", x.of(6, 2), 1);
        c.due("held", x.of(6, 3), 0);
    }

    static void promise22NotHeldWithoutAGrace(Check c) {
        GraceTree x = Stands.grace();
        x.hurry();
        x.enter(6);
        x.park(6);
        c.due("held", x.of(6, 3), 0);
    }

    // ---- 23: leave

    static void promise23NoSuchProcessor(Check c) {
        for (int p : NO_PROCESSORS) {
            Refusal.due(c, "leave(" + p + ")", BoundsActsTest::readers, x -> x.leave(p), -1);
        }
    }

    static void promise23OneThatIsOut(Check c) {
        Refusal.due(c, "leave(0)", BoundsActsTest::readers, x -> x.leave(0), -3);
        Refusal.due(c, "out again", () -> {
            GraceTree x = readers();
            x.leave(3);
            return x;
        }, x -> x.leave(3), -3);
    }

    /** III: "one that is IN (PARKED or not)", at a CELL or at the END. */
    static void promise23AnyThatIsIn(Check c) {
        GraceTree x = readers();
        c.due("at the end", x.leave(5), 0);
        c.due("at a cell", x.leave(3), 0);
        x.enter(3);
        x.park(3);
        c.due("parked", x.leave(3), 0);
        c.due("in", x.of(3, 0), 0);
    }

    /** The last HELD READER's leave() ends the GRACE. */
    static void promise23TheLastHeldOneEndsIt(Check c) {
        GraceTree x = Stands.keys(1, 2, 3);
        x.enter(6);
        x.enter(7);
        x.park(6);
        x.park(7);
        x.drop(1);
        x.drop(3);
        x.begin();
        x.hurry();
        c.due("one of two at the leaf", x.leave(6), 0);
        c.due("it runs", x.count(4), 1);
        c.due("the other one", x.leave(7), 2);
        c.due("it ended", x.count(4), 0);
        c.due("each report once", x.count(5), 14);
    }

    static void promise23HeldButNotReported(Check c) {
        GraceTree x = Stands.grace();
        x.enter(7);
        x.park(7);
        for (int p = 0; p < 7; p++) {
            x.tick(p);
        }
        c.due("leave(7)", x.leave(7), 0);
        c.due("it runs", x.count(4), 1);
        c.due("tick(7)", x.tick(7), 1);
    }

    /** "if it was HELD, its LEAF is LOOKED at": else nothing REPORTS. */
    static void promise23NotHeldReportsNothing(Check c) {
        GraceTree x = Stands.grace();
        x.tick(6);
        x.enter(6);
        x.park(6);
        x.tick(7);
        c.due("the leaf reported without it", x.node(3), 1);
        int cost = x.count(5);
        c.due("leave(6)", x.leave(6), 0);
        c.due("no second report", x.count(5), cost);
        c.due("node(3)", x.node(3), 1);
    }

    static void promise23TheNeighbourIsHeldStill(Check c) {
        GraceTree x = Stands.grace();
        for (int p = 6; p < 8; p++) {
            x.enter(p);
            x.park(p);
            x.tick(p);
        }
        x.leave(7);
        c.due("the leaf waits", x.node(3), 3);
        x.leave(6);
        c.due("the leaf reported", x.node(3), 1);
    }

    // ---- 24: tick

    static void promise24NoSuchProcessor(Check c) {
        for (int p : NO_PROCESSORS) {
            Refusal.due(c, "tick(" + p + ")", Stands::grace, x -> x.tick(p), -1);
        }
    }

    /** "-3 its READER is IN, not PARKED": at a CELL or at the END, with a GRACE or without. */
    static void promise24InAndNotParked(Check c) {
        Refusal.due(c, "at a cell, no grace", BoundsActsTest::readers, x -> x.tick(3), -3);
        Refusal.due(c, "at the end, no grace", BoundsActsTest::readers, x -> x.tick(5), -3);
        Refusal.due(c, "while one runs", () -> {
            GraceTree x = Stands.grace();
            x.enter(3);
            return x;
        }, x -> x.tick(3), -3);
        Refusal.due(c, "reported already", () -> {
            GraceTree x = Stands.grace();
            x.tick(3);
            x.enter(3);
            return x;
        }, x -> x.tick(3), -3);
    }

    /** "with no GRACE that RUNS, or REPORTED, too: 0". */
    static void promise24NoGraceRuns(Check c) {
        GraceTree x = Stands.waiting();
        c.due("tick(0)", x.tick(0), 0);
        c.due("status()", x.status(), 0);
        c.due("it costs nothing", x.count(5), 0);
        c.due("nothing began", x.count(3), 0);
    }

    static void promise24ReportedAlready(Check c) {
        GraceTree x = Stands.grace();
        x.tick(0);
        c.due("again", x.tick(0), 0);
        c.due("status()", x.status(), 0);
        c.due("it costs nothing more", x.count(5), 1);
    }

    /** "(one that does nothing can be undone, too)". */
    static void promise24OneThatDoesNothingCanBeUndone(Check c) {
        GraceTree x = new GraceTree();
        x.tick(0);
        c.due("count(8)", x.count(8), 1);
        c.due("undo()", x.undo(), 6);
        GraceTree y = Stands.grace();
        y.tick(0);
        y.tick(0);
        c.due("undo() of the second", y.undo(), 6);
        c.due("the first stands", y.of(0, 4), 1);
        c.due("undo() of the first", y.undo(), 6);
        c.due("of(0, 4)", y.of(0, 4), 0);
    }

    static void promise24AParkedOneReports(Check c) {
        GraceTree x = Stands.grace();
        x.enter(3);
        x.park(3);
        c.due("tick(3)", x.tick(3), 0);
        c.due("of(3, 4)", x.of(3, 4), 1);
        c.due("held still", x.of(3, 3), 1);
    }

    /** III: "with no HELD READER of its PROCESSORS". */
    static void promise24AHeldOneHoldsItsLeaf(Check c) {
        GraceTree x = Stands.grace();
        x.enter(3);
        x.park(3);
        x.tick(3);
        x.tick(2);
        c.due("both reported", x.node(5), 0);
        c.due("the leaf did not", x.node(2), 3);
        c.due("two reports", x.count(5), 2);
    }

    static void promise24TheLastReportEndsIt(Check c) {
        GraceTree x = Stands.graceButSeven();
        c.due("it runs", x.count(4), 1);
        c.due("tick(7)", x.tick(7), 1);
        c.due("none runs", x.count(4), 0);
        c.due("the cell is free", x.cell(0, 0), 0);
        c.due("time", x.count(16), 1);
        // eight of PROCESSORS, four of LEAVES, two of NODES
        c.due("all reports", x.count(5), 14);
    }

    /** III: "the TIME is one more (999 stays)". */
    static void promise24TimeStaysAt999(Check c) {
        GraceTree x = Stands.waiting();
        x.terms(0, 998);
        x.begin();
        x.hurry();
        c.due("one more", x.count(16), 999);
        x.put(2, 2);
        x.drop(2);
        x.begin();
        x.hurry();
        c.due("999 stays", x.count(16), 999);
    }

    /** III: "if CELLS are WAITING, the next one BEGINS at once". */
    static void promise24TheNextOneBeginsAtOnce(Check c) {
        GraceTree x = Stands.graceButSeven();
        x.put(2, 2);
        x.drop(2);
        c.due("tick(7)", x.tick(7), 1);
        c.due("one runs", x.count(4), 1);
        c.due("its number", x.count(3), 2);
        c.due("its cells", x.count(2), 1);
        c.due("its cell", x.old(1, 0), 1);
        c.due("none waits", x.count(1), 0);
        c.due("nobody has reported", x.holders(), 255);
        c.due("node(1)", x.node(1), 3);
        c.due("time", x.count(16), 1);
    }

    static void promise24NothingWaitsNoneBegins(Check c) {
        GraceTree x = Stands.graceButSeven();
        x.put(2, 2);
        x.tick(7);
        c.due("none runs", x.count(4), 0);
        c.due("graces", x.count(3), 1);
    }

    static void promise24ParkedOnesAreHeldByTheNextOne(Check c) {
        GraceTree x = Stands.graceButSeven();
        x.put(2, 2);
        x.enter(0);
        x.park(0);
        x.drop(2);
        c.due("not held by this one", x.of(0, 3), 0);
        x.tick(7);
        c.due("held by the next one", x.of(0, 3), 1);
    }

    static void promise24ACostOfZeroAndOf99(Check c) {
        GraceTree x = Stands.grace();
        Feeder.law(x, "costs 1000 if level=2;costs 0-5 if level<2");
        x.force(0);
        x.hurry();
        c.due("eight times 99, six times 0", x.count(5), 792);
    }

    /** "asked of the NODE to which it comes, as all is then". */
    static void promise24EachReportIsAskedOfTheNodeToWhichItComes(Check c) {
        GraceTree x = Stands.grace();
        Feeder.law(x, "costs 10*node+child");
        x.force(0);
        x.tick(6);
        c.due("of processor 6 to leaf 7", x.count(5), 70);
        x.tick(7);
        c.due("of processor 7, and of leaf 7 to node 3", x.count(5), 70 + 71 + 31);
        x.tick(4);
        x.tick(5);
        c.due("of node 3 to the top", x.count(5), 172 + 60 + 61 + 30 + 11);
    }

    // ---- 25: begin

    /** "-3": no CELL is WAITING. */
    static void promise25NothingWaits(Check c) {
        Refusal.due(c, "of nothing", GraceTree::new, GraceTree::begin, -3);
        Refusal.due(c, "of live cells alone", () -> Stands.keys(4), GraceTree::begin, -3);
        Refusal.due(c, "behind one that ended", () -> {
            GraceTree x = Stands.grace();
            x.hurry();
            return x;
        }, GraceTree::begin, -3);
    }

    static void promise25OneRuns(Check c) {
        Refusal.due(c, "with none waiting", Stands::grace, GraceTree::begin, -3);
        Refusal.due(c, "with one waiting", () -> {
            GraceTree x = Stands.grace();
            x.put(2, 2);
            x.drop(2);
            return x;
        }, GraceTree::begin, -3);
    }

    /** I: "GRACES are numbered from 1 on as they begin." */
    static void promise25NumbersFrom1On(Check c) {
        GraceTree x = new GraceTree();
        for (int n = 1; n <= 3; n++) {
            x.put(4, n);
            x.drop(4);
            c.due("begin()", x.begin(), n);
            x.hurry();
        }
    }

    static void promise25OneThatIsUndoneGivesItsNumberBack(Check c) {
        GraceTree x = Stands.grace();
        x.undo();
        c.due("begin()", x.begin(), 1);
    }

    static void promise25AllThatWait(Check c) {
        GraceTree x = Stands.full();
        for (int key = 0; key < 24; key++) {
            x.drop(key);
        }
        c.due("begin()", x.begin(), 1);
        c.due("current", x.count(2), 24);
        c.due("waiting", x.count(1), 0);
    }

    static void promise25ParkedReadersAreHeld(Check c) {
        GraceTree x = Stands.keys(4);
        x.enter(0);
        x.enter(7);
        x.enter(3);
        x.park(0);
        x.park(7);
        x.drop(4);
        x.begin();
        c.due("of(0, 3)", x.of(0, 3), 1);
        c.due("of(7, 3)", x.of(7, 3), 1);
        c.due("not parked", x.of(3, 3), 0);
    }

    // ---- 26: hurry

    /** "-3 none RUNS." */
    static void promise26NoneRuns(Check c) {
        Refusal.due(c, "of nothing", GraceTree::new, GraceTree::hurry, -3);
        Refusal.due(c, "with one waiting", Stands::waiting, GraceTree::hurry, -3);
        Refusal.due(c, "behind one that ended", () -> {
            GraceTree x = Stands.grace();
            x.hurry();
            return x;
        }, GraceTree::hurry, -3);
    }

    static void promise26ToItsEnd(Check c) {
        GraceTree x = Stands.grace();
        c.due("hurry()", x.hurry(), 1);
        c.due("none runs", x.count(4), 0);
        c.due("all reports", x.count(5), 14);
    }

    /** "others are passed over": READERS that are IN, not PARKED. */
    static void promise26OthersArePassedOver(Check c) {
        GraceTree x = Stands.grace();
        x.enter(0);
        x.enter(7);
        c.due("hurry()", x.hurry(), 0);
        c.due("holders()", x.holders(), 129);
        c.due("status()", x.status(), 0);
    }

    static void promise26NobodyCan(Check c) {
        GraceTree x = Stands.grace();
        for (int p = 0; p < 8; p++) {
            x.enter(p);
        }
        c.due("hurry()", x.hurry(), 0);
        c.due("nobody reported", x.holders(), 255);
        c.due("it can be undone", x.undo(), 8);
        c.due("the enter ahead of it", x.undo(), 2);
    }

    static void promise26ParkedOnesReportAndHold(Check c) {
        GraceTree x = Stands.grace();
        x.enter(2);
        x.park(2);
        c.due("hurry()", x.hurry(), 0);
        c.due("of(2, 4)", x.of(2, 4), 1);
        c.due("holders()", x.holders(), 4);
    }

    /** "(...; the next one is not hurried)". */
    static void promise26TheNextOneIsNotHurried(Check c) {
        GraceTree x = Stands.grace();
        x.put(2, 2);
        x.drop(2);
        // with these the GRACE ends at PROCESSOR 3, ahead of the others' turns
        for (int p = 4; p < 8; p++) {
            x.tick(p);
        }
        c.due("hurry()", x.hurry(), 1);
        c.due("the next one runs", x.count(3), 2);
        c.due("nobody reported to it", x.holders(), 255);
        c.due("reports", x.count(5), 14);
    }

    static void promise26OnlyThoseThatHaveNotReported(Check c) {
        GraceTree x = Stands.graceButSeven();
        c.due("hurry()", x.hurry(), 1);
        c.due("reports", x.count(5), 14);
    }

    static void promise26AllCells(Check c) {
        GraceTree x = Stands.full();
        for (int key = 0; key < 24; key++) {
            x.drop(key);
        }
        x.begin();
        c.due("hurry()", x.hurry(), 24);
        c.due("put(5, 5)", x.put(5, 5), 0);
    }
}
