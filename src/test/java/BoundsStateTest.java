/** Boundary cases of promises 1 to 8, one by one: a new object, and what stands in it. */
public final class BoundsStateTest {
    private static final int MIN = Integer.MIN_VALUE;
    private static final int MAX = Integer.MAX_VALUE;

    public static void main(String[] args) {
        Cases.run(BoundsStateTest.class);
    }

    // ---- 1: "An empty list, all readers out."

    static void promise01TheListIsEmpty(Check c) {
        GraceTree x = new GraceTree();
        c.due("list(0)", x.list(0), -1);
        c.due("count(0)", x.count(0), 0);
    }

    static void promise01AllReadersAreOut(Check c) {
        GraceTree x = new GraceTree();
        for (int p = 0; p < 8; p++) {
            c.due("of(" + p + ", 0)", x.of(p, 0), 0);
            c.due("of(" + p + ", 2)", x.of(p, 2), 0);
        }
    }

    /** I: "FREE (0; at first all)". */
    static void promise01AllCellsAreFree(Check c) {
        GraceTree x = new GraceTree();
        for (int cell = 0; cell < 24; cell++) {
            c.due("cell(" + cell + ", 0)", x.cell(cell, 0), 0);
        }
    }

    /** I: "One RUNS, or none (at first)." */
    static void promise01NoGraceRuns(Check c) {
        GraceTree x = new GraceTree();
        c.due("count(4)", x.count(4), 0);
        c.due("count(3)", x.count(3), 0);
        c.due("holders()", x.holders(), 0);
    }

    /** I: "0 TIME 0 .. 999 (0 at first), 1 LOSSES 0 .. 10 (1), 2 MOOD 0 .. 9 (0)." */
    static void promise01TermsAtFirst(Check c) {
        GraceTree x = new GraceTree();
        c.due("TIME", x.count(16), 0);
        c.due("LOSSES", x.count(17), 1);
        c.due("MOOD", x.count(18), 0);
    }

    /** II: "one is in FORCE (NONE at first)". */
    static void promise01NoLawIsInForce(Check c) {
        c.due("count(15)", new GraceTree().count(15), -1);
    }

    static void promise01AllElseIsNothing(Check c) {
        GraceTree x = new GraceTree();
        for (int what = 0; what <= 14; what++) {
            c.due("count(" + what + ")", x.count(what), 0);
        }
    }

    static void promise01ObjectsShareNothing(Check c) {
        GraceTree x = Stands.grace();
        x.enter(0);
        x.terms(2, 9);
        GraceTree y = new GraceTree();
        c.same("a new object beside a used one", Refusal.tell(y), Refusal.tell(new GraceTree()));
        c.due("of(0, 0)", y.of(0, 0), 0);
        c.due("count(18)", y.count(18), 0);
        c.due("the used one stays", x.count(4), 1);
    }

    /** "An object is used for at most 512 calls": the last of these is answered. */
    static void promise01The512thCallIsAnswered(Check c) {
        GraceTree x = new GraceTree();
        x.put(5, 50);
        for (int call = 2; call <= 510; call++) {
            x.tick(call % 8);
        }
        c.due("call 511", x.count(8), 16);
        c.due("call 512", x.find(5), 50);
    }

    /** "The constants: NONE = -1". */
    static void promise01None(Check c) {
        c.due("NONE", GraceTree.NONE, -1);
    }

    // ---- 2: of

    static void promise02ProcessorTooSmall(Check c) {
        GraceTree x = Stands.grace();
        for (int what = 0; what <= 4; what++) {
            c.due("of(-1, " + what + ")", x.of(-1, what), -1);
            c.due("of(MIN, " + what + ")", x.of(MIN, what), -1);
        }
    }

    static void promise02ProcessorTooLarge(Check c) {
        GraceTree x = Stands.grace();
        for (int what = 0; what <= 4; what++) {
            c.due("of(8, " + what + ")", x.of(8, what), -1);
            // one that a shift by its number would take for PROCESSOR 0
            c.due("of(32, " + what + ")", x.of(32, what), -1);
            c.due("of(MAX, " + what + ")", x.of(MAX, what), -1);
        }
    }

    static void promise02FirstAndLastProcessor(Check c) {
        GraceTree x = Stands.keys(4);
        x.enter(0);
        x.enter(7);
        for (int p = 0; p < 8; p += 7) {
            c.due("of(" + p + ", 0)", x.of(p, 0), 1);
            c.due("of(" + p + ", 1)", x.of(p, 1), 0);
        }
        c.due("of(1, 0)", x.of(1, 0), 0);
        c.due("of(6, 0)", x.of(6, 0), 0);
    }

    static void promise02WhatTooSmall(Check c) {
        GraceTree x = Stands.keys(4);
        x.enter(3);
        c.due("of(3, -1)", x.of(3, -1), -1);
        c.due("of(3, MIN)", x.of(3, MIN), -1);
    }

    static void promise02WhatTooLarge(Check c) {
        GraceTree x = Stands.keys(4);
        x.enter(3);
        c.due("of(3, 5)", x.of(3, 5), -1);
        c.due("of(3, MAX)", x.of(3, MAX), -1);
    }

    /** "its CELL (1; NONE: OUT, at the END)". */
    static void promise02CellOfOneThatIsOut(Check c) {
        GraceTree x = Stands.keys(4);
        c.due("never in", x.of(3, 1), -1);
        x.enter(3);
        x.leave(3);
        c.due("out again", x.of(3, 1), -1);
    }

    static void promise02CellAtTheEnd(Check c) {
        GraceTree x = Stands.keys(4);
        x.enter(3);
        x.step(3);
        c.due("in", x.of(3, 0), 1);
        c.due("behind the last cell", x.of(3, 1), -1);
        GraceTree y = new GraceTree();
        y.enter(3);
        c.due("in", y.of(3, 0), 1);
        c.due("of an empty list", y.of(3, 1), -1);
    }

    static void promise02FirstAndLastCell(Check c) {
        GraceTree x = Stands.full();
        x.enter(3);
        c.due("cell 0", x.of(3, 1), 0);
        for (int i = 0; i < 23; i++) {
            x.step(3);
        }
        c.due("cell 23", x.of(3, 1), 23);
    }

    /** "HELD (3)": a PARKED one is not, as long as no GRACE RUNS. */
    static void promise02ParkedIsNotHeldWithoutAGrace(Check c) {
        GraceTree x = Stands.waiting();
        x.enter(3);
        x.park(3);
        c.due("parked", x.of(3, 2), 1);
        c.due("not held", x.of(3, 3), 0);
        x.begin();
        c.due("held then", x.of(3, 3), 1);
    }

    static void promise02NobodyIsHeldBehindAGrace(Check c) {
        GraceTree x = Stands.graceButSeven();
        x.enter(0);
        x.park(0);
        x.tick(7);
        for (int p = 0; p < 8; p++) {
            c.due("of(" + p + ", 3)", x.of(p, 3), 0);
        }
    }

    static void promise02NothingIsLeftOfOneThatLeft(Check c) {
        GraceTree x = Stands.grace();
        x.enter(3);
        x.park(3);
        x.leave(3);
        c.due("in", x.of(3, 0), 0);
        c.due("parked", x.of(3, 2), 0);
        c.due("held", x.of(3, 3), 0);
    }

    /** "whether it has REPORTED (4; 1, if no GRACE RUNS)". */
    static void promise02ReportedIfNoGraceRuns(Check c) {
        GraceTree x = Stands.waiting();
        c.due("ahead of it", x.of(7, 4), 1);
        x.begin();
        c.due("while it runs", x.of(7, 4), 0);
        x.tick(7);
        c.due("reported", x.of(7, 4), 1);
        c.due("its neighbour", x.of(6, 4), 0);
        x.hurry();
        c.due("behind it", x.of(6, 4), 1);
    }

    // ---- 3: cell

    static void promise03CellTooSmall(Check c) {
        GraceTree x = Stands.full();
        for (int what = 0; what <= 3; what++) {
            c.due("cell(-1, " + what + ")", x.cell(-1, what), -1);
            c.due("cell(MIN, " + what + ")", x.cell(MIN, what), -1);
        }
    }

    static void promise03CellTooLarge(Check c) {
        GraceTree x = Stands.full();
        for (int what = 0; what <= 3; what++) {
            c.due("cell(24, " + what + ")", x.cell(24, what), -1);
            c.due("cell(MAX, " + what + ")", x.cell(MAX, what), -1);
        }
    }

    static void promise03FirstAndLastCell(Check c) {
        GraceTree x = Stands.full();
        c.due("cell(0, 0)", x.cell(0, 0), 1);
        c.due("cell(0, 1)", x.cell(0, 1), 0);
        c.due("cell(0, 3)", x.cell(0, 3), 1);
        c.due("cell(23, 0)", x.cell(23, 0), 1);
        c.due("cell(23, 1)", x.cell(23, 1), 23);
        c.due("cell(23, 2)", x.cell(23, 2), 23);
    }

    static void promise03WhatTooSmall(Check c) {
        GraceTree x = Stands.keys(4);
        c.due("of a live one", x.cell(0, -1), -1);
        c.due("of a live one", x.cell(0, MIN), -1);
        c.due("of a free one", x.cell(1, -1), -1);
    }

    static void promise03WhatTooLarge(Check c) {
        GraceTree x = Stands.keys(4);
        c.due("of a live one", x.cell(0, 4), -1);
        c.due("of a live one", x.cell(0, MAX), -1);
        c.due("of a free one", x.cell(1, 4), -1);
    }

    /** "NONE (1 and more: FREE, too)". */
    static void promise03AFreeCellHasNothing(Check c) {
        GraceTree x = Stands.keys(4);
        c.due("cell(1, 0)", x.cell(1, 0), 0);
        for (int what = 1; what <= 3; what++) {
            c.due("cell(1, " + what + ")", x.cell(1, what), -1);
        }
    }

    static void promise03ACellThatIsFreeAgainHasNothing(Check c) {
        GraceTree x = Stands.grace();
        x.hurry();
        c.due("cell(0, 0)", x.cell(0, 0), 0);
        for (int what = 1; what <= 3; what++) {
            c.due("cell(0, " + what + ")", x.cell(0, what), -1);
        }
    }

    /** "NEXT (3; NONE: the END)". */
    static void promise03NextIsTheEnd(Check c) {
        GraceTree x = Stands.keys(4, 6);
        c.due("of the last", x.cell(1, 3), -1);
        c.due("of one ahead of it", x.cell(0, 3), 1);
    }

    /** I: "KEY 0 .. 99, VALUE 0 .. 999". */
    static void promise03LowestAndHighestKeyAndValue(Check c) {
        GraceTree x = new GraceTree();
        x.put(0, 999);
        x.put(99, 0);
        c.due("cell(0, 1)", x.cell(0, 1), 0);
        c.due("cell(0, 2)", x.cell(0, 2), 999);
        c.due("cell(1, 1)", x.cell(1, 1), 99);
        c.due("cell(1, 2)", x.cell(1, 2), 0);
    }

    /** III: "it (its NEXT stays) is OLD": whatever becomes of that one. */
    static void promise03AnOldCellKeepsAll(Check c) {
        GraceTree x = Stands.keys(4, 6, 8);
        x.drop(4);
        x.drop(6);
        x.put(8, 1);
        c.due("cell(0, 0)", x.cell(0, 0), 2);
        c.due("cell(0, 1)", x.cell(0, 1), 4);
        c.due("cell(0, 2)", x.cell(0, 2), 40);
        c.due("cell(0, 3)", x.cell(0, 3), 1);
        c.due("cell(1, 3)", x.cell(1, 3), 2);
        x.begin();
        c.due("current, still old", x.cell(0, 0), 2);
        c.due("its next", x.cell(0, 3), 1);
    }

    // ---- 4: list

    static void promise04NothingOfAnEmptyList(Check c) {
        GraceTree x = new GraceTree();
        c.due("list(0)", x.list(0), -1);
        GraceTree y = Stands.waiting();
        c.due("list(0), empty again", y.list(0), -1);
    }

    static void promise04PlaceTooSmall(Check c) {
        GraceTree x = Stands.keys(4, 6);
        c.due("list(-1)", x.list(-1), -1);
        c.due("list(MIN)", x.list(MIN), -1);
    }

    static void promise04PlaceBehindTheLast(Check c) {
        GraceTree x = Stands.keys(6, 4);
        c.due("the first", x.list(0), 1);
        c.due("the last", x.list(1), 0);
        c.due("behind it", x.list(2), -1);
        c.due("list(MAX)", x.list(MAX), -1);
    }

    static void promise04AFullList(Check c) {
        GraceTree x = Stands.full();
        c.due("the last", x.list(23), 23);
        c.due("list(24)", x.list(24), -1);
        c.due("list(25)", x.list(25), -1);
    }

    // ---- 5: find

    static void promise05KeyTooSmall(Check c) {
        GraceTree x = Stands.keys(0);
        c.due("find(-1)", x.find(-1), -1);
        c.due("find(MIN)", x.find(MIN), -1);
    }

    static void promise05KeyTooLarge(Check c) {
        GraceTree x = Stands.keys(99);
        c.due("find(100)", x.find(100), -1);
        c.due("find(MAX)", x.find(MAX), -1);
    }

    static void promise05LowestAndHighestKey(Check c) {
        GraceTree x = Stands.keys(99, 0);
        c.due("find(0)", x.find(0), 0);
        c.due("find(99)", x.find(99), 990);
    }

    static void promise05AnEmptyList(Check c) {
        GraceTree x = new GraceTree();
        c.due("find(0)", x.find(0), -1);
        c.due("find(99)", x.find(99), -1);
    }

    static void promise05AKeyThatIsNotThere(Check c) {
        GraceTree x = Stands.keys(4, 8);
        c.due("ahead of all", x.find(3), -1);
        c.due("between", x.find(6), -1);
        c.due("behind all", x.find(9), -1);
    }

    static void promise05AnOldCellIsNotInTheList(Check c) {
        GraceTree x = Stands.keys(4, 8);
        x.drop(4);
        x.put(8, 1);
        c.due("dropped", x.find(4), -1);
        c.due("the copy's value", x.find(8), 1);
    }

    // ---- 6: node

    static void promise06NodeTooSmall(Check c) {
        GraceTree x = Stands.grace();
        c.due("node(0)", x.node(0), -1);
        c.due("node(-1)", x.node(-1), -1);
        c.due("node(MIN)", x.node(MIN), -1);
    }

    static void promise06NodeTooLarge(Check c) {
        GraceTree x = Stands.grace();
        c.due("node(8)", x.node(8), -1);
        c.due("node(MAX)", x.node(MAX), -1);
    }

    /** "0, if no GRACE RUNS": never one, and behind one. */
    static void promise06NoGraceRuns(Check c) {
        GraceTree x = Stands.waiting();
        GraceTree y = Stands.grace();
        y.hurry();
        for (int n = 1; n <= 7; n++) {
            c.due("node(" + n + ") ahead of any", x.node(n), 0);
            c.due("node(" + n + ") behind one", y.node(n), 0);
        }
        c.due("node(0)", x.node(0), -1);
        c.due("node(8)", x.node(8), -1);
    }

    /** "no CHILD of any NODE has REPORTED" as it begins. */
    static void promise06NobodyHasReportedAtFirst(Check c) {
        GraceTree x = Stands.grace();
        for (int n = 1; n <= 7; n++) {
            c.due("node(" + n + ")", x.node(n), 3);
        }
    }

    /** I: "the CHILDREN of LEAF n are the PROCESSORS with the numbers twice n less 8, and one more". */
    static void promise06EachProcessorsBit(Check c) {
        for (int p = 0; p < 8; p++) {
            GraceTree x = Stands.grace();
            x.tick(p);
            for (int leaf = 4; leaf <= 7; leaf++) {
                boolean lower = p == 2 * leaf - 8;
                boolean higher = p == 2 * leaf - 7;
                c.due("node(" + leaf + ") behind tick(" + p + ")", x.node(leaf), lower ? 2 : higher ? 1 : 3);
            }
        }
    }

    /** I: "the CHILDREN are the NODES with twice its number, and one more". */
    static void promise06EachNodesBit(Check c) {
        for (int leaf = 4; leaf <= 7; leaf++) {
            GraceTree x = Stands.grace();
            x.tick(2 * leaf - 8);
            x.tick(2 * leaf - 7);
            c.due("the leaf", x.node(leaf), 0);
            c.due("node(2)", x.node(2), leaf == 4 ? 2 : leaf == 5 ? 1 : 3);
            c.due("node(3)", x.node(3), leaf == 6 ? 2 : leaf == 7 ? 1 : 3);
            c.due("node(1)", x.node(1), 3);
        }
        GraceTree y = Stands.grace();
        for (int p = 0; p < 4; p++) {
            y.tick(p);
        }
        c.due("node(2), both", y.node(2), 0);
        c.due("node(1), the higher one is left", y.node(1), 2);
        GraceTree z = Stands.grace();
        for (int p = 4; p < 8; p++) {
            z.tick(p);
        }
        c.due("node(3), both", z.node(3), 0);
        c.due("node(1), the lower one is left", z.node(1), 1);
    }

    // ---- 7: old

    static void promise07WhichTooSmallOrTooLarge(Check c) {
        GraceTree x = Stands.grace();
        x.put(5, 5);
        x.drop(5);
        c.due("old(0, 0)", x.old(0, 0), 1);
        c.due("old(1, 0)", x.old(1, 0), 0);
        c.due("old(-1, 0)", x.old(-1, 0), -1);
        c.due("old(2, 0)", x.old(2, 0), -1);
        c.due("old(MIN, 0)", x.old(MIN, 0), -1);
        c.due("old(MAX, 0)", x.old(MAX, 0), -1);
    }

    static void promise07PlaceTooSmall(Check c) {
        GraceTree x = Stands.grace();
        x.put(5, 5);
        x.drop(5);
        for (int which = 0; which <= 1; which++) {
            c.due("old(" + which + ", -1)", x.old(which, -1), -1);
            c.due("old(" + which + ", MIN)", x.old(which, MIN), -1);
        }
    }

    static void promise07PlaceBehindTheLast(Check c) {
        GraceTree x = Stands.grace();
        x.put(5, 5);
        x.drop(5);
        for (int which = 0; which <= 1; which++) {
            c.due("old(" + which + ", 1)", x.old(which, 1), -1);
            c.due("old(" + which + ", 24)", x.old(which, 24), -1);
            c.due("old(" + which + ", MAX)", x.old(which, MAX), -1);
        }
    }

    static void promise07NothingIsOld(Check c) {
        GraceTree x = Stands.keys(4, 5);
        c.due("old(0, 0)", x.old(0, 0), -1);
        c.due("old(1, 0)", x.old(1, 0), -1);
        GraceTree y = Stands.grace();
        c.due("all are current: old(0, 0)", y.old(0, 0), -1);
        y.hurry();
        c.due("all are free: old(1, 0)", y.old(1, 0), -1);
    }

    /** "in the order in which they became OLD". */
    static void promise07TheOrder(Check c) {
        GraceTree x = Stands.keys(4, 5, 6);
        x.drop(6);
        x.put(4, 1);
        x.drop(5);
        int[] due = {2, 0, 1};
        for (int i = 0; i < 3; i++) {
            c.due("old(0, " + i + ")", x.old(0, i), due[i]);
        }
        x.begin();
        for (int i = 0; i < 3; i++) {
            c.due("old(1, " + i + ")", x.old(1, i), due[i]);
        }
        c.due("old(0, 0)", x.old(0, 0), -1);
    }

    static void promise07AllCellsAreOld(Check c) {
        GraceTree x = Stands.full();
        for (int key = 23; key >= 0; key--) {
            x.drop(key);
        }
        c.due("old(0, 0)", x.old(0, 0), 23);
        c.due("old(0, 23)", x.old(0, 23), 0);
        c.due("old(0, 24)", x.old(0, 24), -1);
        x.begin();
        c.due("old(1, 0)", x.old(1, 0), 23);
        c.due("old(1, 23)", x.old(1, 23), 0);
        c.due("old(1, 24)", x.old(1, 24), -1);
        c.due("hurry()", x.hurry(), 24);
    }

    // ---- 8: terms

    private static void termRange(Check c, int what, int most, int first) {
        GraceTree x = new GraceTree();
        c.due("the lowest: what it was", x.terms(what, 0), first);
        c.due("the highest: what it was", x.terms(what, most), 0);
        c.due("count(" + (16 + what) + ")", x.count(16 + what), most);
        c.due("what it was", x.terms(what, 3), most);
        c.due("status()", x.status(), 0);
        Refusal.due(c, "one too many", GraceTree::new, y -> y.terms(what, most + 1), -1);
        Refusal.due(c, "one too few", GraceTree::new, y -> y.terms(what, -1), -1);
        Refusal.due(c, "MAX", GraceTree::new, y -> y.terms(what, MAX), -1);
        Refusal.due(c, "MIN", GraceTree::new, y -> y.terms(what, MIN), -1);
    }

    static void promise08TimeFrom0To999(Check c) {
        termRange(c, 0, 999, 0);
    }

    static void promise08LossesFrom0To10(Check c) {
        termRange(c, 1, 10, 1);
    }

    static void promise08MoodFrom0To9(Check c) {
        termRange(c, 2, 9, 0);
    }

    static void promise08NoSuchTerm(Check c) {
        Refusal.due(c, "terms(-1, 0)", GraceTree::new, x -> x.terms(-1, 0), -1);
        Refusal.due(c, "terms(3, 0)", GraceTree::new, x -> x.terms(3, 0), -1);
        Refusal.due(c, "terms(3, -1)", GraceTree::new, x -> x.terms(3, -1), -1);
        Refusal.due(c, "terms(MIN, 0)", GraceTree::new, x -> x.terms(MIN, 0), -1);
        Refusal.due(c, "terms(MAX, 0)", GraceTree::new, x -> x.terms(MAX, 0), -1);
    }

    static void promise08ARefusedOneLeavesWhatCanBeUndone(Check c) {
        Refusal.due(c, "terms(2, 10)", () -> Stands.keys(4), x -> x.terms(2, 10), -1);
    }
}
