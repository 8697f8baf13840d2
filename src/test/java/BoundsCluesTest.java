/** Boundary cases of promises 33 to 36, one by one: what was SEEN, who it can be, what to ASK. */
public final class BoundsCluesTest {
    private static final int MIN = Integer.MIN_VALUE;
    private static final int MAX = Integer.MAX_VALUE;

    public static void main(String[] args) {
        Cases.run(BoundsCluesTest.class);
    }

    private static GraceTree sixSeen() {
        GraceTree x = new GraceTree();
        for (int i = 0; i < 6; i++) {
            x.seen(0, 0);
        }
        return x;
    }

    // ---- 33: seen

    /** "SEEN, 6 at most": how often there was, with this one. */
    static void promise33FromOneToSix(Check c) {
        GraceTree x = new GraceTree();
        for (int i = 1; i <= 6; i++) {
            c.due("seen()", x.seen(0, 0), i);
            c.due("count(6)", x.count(6), i);
        }
        c.due("status()", x.status(), 0);
    }

    /** "-5". */
    static void promise33ASeventh(Check c) {
        Refusal.due(c, "seen(0, 1)", BoundsCluesTest::sixSeen, x -> x.seen(0, 1), -5);
    }

    static void promise33TheSixthCounts(Check c) {
        GraceTree x = new GraceTree();
        for (int i = 0; i < 5; i++) {
            x.seen(0, 0);
        }
        c.due("canBe() by five", x.canBe(), 255);
        x.seen(0, 1);
        c.due("canBe() by six", x.canBe(), 0);
    }

    /** "-1 (FACT, n 0 .. 100)". */
    static void promise33FactsFrom0To2(Check c) {
        GraceTree x = new GraceTree();
        c.due("seen(0, 0)", x.seen(0, 0), 1);
        c.due("seen(1, 0)", x.seen(1, 0), 2);
        c.due("seen(2, 0)", x.seen(2, 0), 3);
    }

    static void promise33NoSuchFact(Check c) {
        for (int fact : new int[] {-1, 3, MIN, MAX}) {
            Refusal.due(c, "seen(" + fact + ", 0)", GraceTree::new, x -> x.seen(fact, 0), -1);
        }
    }

    static void promise33NFrom0To100(Check c) {
        for (int fact = 0; fact <= 2; fact++) {
            GraceTree x = new GraceTree();
            c.due("seen(" + fact + ", 0)", x.seen(fact, 0), 1);
            c.due("seen(" + fact + ", 100)", x.seen(fact, 100), 2);
        }
    }

    static void promise33NoSuchN(Check c) {
        for (int n : new int[] {-1, 101, MIN, MAX}) {
            for (int fact = 0; fact <= 2; fact++) {
                int asked = fact;
                Refusal.due(c, "seen(" + fact + ", " + n + ")", GraceTree::new, x -> x.seen(asked, n), -1);
            }
        }
    }

    /** "The first of these in that order." */
    static void promise33ABadNumberComesAheadOfNoRoom(Check c) {
        Refusal.due(c, "seen(3, 0)", BoundsCluesTest::sixSeen, x -> x.seen(3, 0), -1);
        Refusal.due(c, "seen(0, 101)", BoundsCluesTest::sixSeen, x -> x.seen(0, 101), -1);
    }

    /** "It leaves what can be undone." */
    static void promise33ItLeavesWhatCanBeUndone(Check c) {
        GraceTree x = Stands.keys(4);
        x.seen(0, 0);
        c.due("count(8)", x.count(8), 1);
        c.due("undo()", x.undo(), 0);
        c.due("what was seen stays", x.count(6), 1);
    }

    // ---- 34: forget

    static void promise34OfNothing(Check c) {
        GraceTree x = new GraceTree();
        c.due("forget()", x.forget(), 0);
        c.due("count(6)", x.count(6), 0);
    }

    static void promise34OfSix(Check c) {
        GraceTree x = sixSeen();
        c.due("forget()", x.forget(), 6);
        c.due("count(6)", x.count(6), 0);
        c.due("again", x.forget(), 0);
        c.due("there is room again", x.seen(0, 0), 1);
    }

    static void promise34NothingIsLeftOfIt(Check c) {
        GraceTree x = new GraceTree();
        x.seen(0, 1);
        c.due("canBe()", x.canBe(), 0);
        x.forget();
        c.due("canBe()", x.canBe(), 255);
        x.seen(1, 0);
        c.due("only what was seen since", x.canBe(), 255);
    }

    static void promise34StatusDoesNotKnowIt(Check c) {
        GraceTree x = new GraceTree();
        x.hurry();
        x.forget();
        c.due("status()", x.status(), -3);
    }

    // ---- 35: canBe

    static void promise35NothingWasSeen(Check c) {
        c.due("canBe()", new GraceTree().canBe(), 255);
    }

    static void promise35ItCanBeNone(Check c) {
        GraceTree x = Stands.keys(4);
        x.enter(0);
        x.seen(0, 1);
        x.seen(0, 0);
        c.due("canBe()", x.canBe(), 0);
    }

    static void promise35FirstAndLastReader(Check c) {
        GraceTree x = new GraceTree();
        x.enter(0);
        x.enter(7);
        x.seen(0, 1);
        c.due("canBe()", x.canBe(), 129);
    }

    /** FACT 0 "whether IN": at the END, too; 1 and 0 alone are so. */
    static void promise35WhetherIn(Check c) {
        GraceTree x = new GraceTree();
        x.enter(3);
        x.seen(0, 1);
        c.due("in, at the end", x.canBe(), 8);
        x.forget();
        x.seen(0, 0);
        c.due("out", x.canBe(), 247);
        x.forget();
        x.seen(0, 2);
        c.due("a number that it never is", x.canBe(), 0);
    }

    /** FACT 1 "whether PARKED": HELD or not. */
    static void promise35WhetherParked(Check c) {
        GraceTree x = Stands.grace();
        x.tick(3);
        x.enter(3);
        x.park(3);
        x.enter(4);
        x.park(4);
        x.enter(5);
        x.seen(1, 1);
        c.due("parked", x.canBe(), 24);
        x.forget();
        x.seen(1, 0);
        c.due("not parked", x.canBe(), 231);
        x.forget();
        x.seen(1, 2);
        c.due("a number that it never is", x.canBe(), 0);
    }

    /** FACT 2 "the KEY of the CELL at which it is, LIVE or OLD". */
    static void promise35KeysFrom0To99LiveOrOld(Check c) {
        GraceTree x = Stands.keys(0, 99);
        x.enter(0);
        x.enter(7);
        x.step(7);
        x.drop(0);
        x.seen(2, 0);
        c.due("the lowest key, old", x.canBe(), 1);
        x.forget();
        x.seen(2, 99);
        c.due("the highest key, live", x.canBe(), 128);
        x.begin();
        x.forget();
        x.seen(2, 0);
        c.due("current", x.canBe(), 1);
    }

    /** "100 without": OUT, or at the END. */
    static void promise35Without100(Check c) {
        GraceTree x = Stands.keys(4);
        x.enter(0);
        x.enter(1);
        x.step(1);
        x.seen(2, 100);
        c.due("canBe()", x.canBe(), 254);
    }

    static void promise35AllSixMustBeSo(Check c) {
        GraceTree x = Stands.keys(4);
        for (int p = 0; p < 8; p++) {
            x.enter(p);
        }
        x.park(2);
        x.seen(0, 1);
        x.seen(0, 1);
        x.seen(2, 4);
        x.seen(2, 4);
        x.seen(1, 1);
        x.seen(1, 1);
        c.due("canBe()", x.canBe(), 4);
    }

    static void promise35AsItIsNow(Check c) {
        GraceTree x = new GraceTree();
        x.seen(0, 1);
        c.due("nobody", x.canBe(), 0);
        x.enter(6);
        c.due("now", x.canBe(), 64);
    }

    // ---- 36: ask

    /** "NONE (it can be none)." */
    static void promise36ItCanBeNone(Check c) {
        GraceTree x = new GraceTree();
        x.seen(0, 1);
        c.due("ask(0)", x.ask(0), -1);
        c.due("ask(1)", x.ask(1), -1);
    }

    static void promise36WhatTooSmallOrTooLarge(Check c) {
        GraceTree x = new GraceTree();
        for (int what : new int[] {-1, 2, MIN, MAX}) {
            c.due("ask(" + what + ")", x.ask(what), -1);
        }
    }

    /** "the lowest", if they are equal: all three, or the last two. */
    static void promise36TheLowestOfEqualOnes(Check c) {
        GraceTree x = new GraceTree();
        c.due("all alike: ask(0)", x.ask(0), 0);
        c.due("all alike: ask(1)", x.ask(1), 8);
        GraceTree y = Stands.keys(4, 6);
        // all are IN; PARKED and at KEY 4: the first four, not PARKED and at KEY 6: the others
        for (int p = 0; p < 8; p++) {
            y.enter(p);
            if (p < 4) {
                y.park(p);
            } else {
                y.step(p);
            }
        }
        c.due("parked or key: ask(0)", y.ask(0), 1);
        c.due("parked or key: ask(1)", y.ask(1), 4);
    }

    static void promise36EachFactCanBeIt(Check c) {
        GraceTree x = new GraceTree();
        for (int p = 0; p < 4; p++) {
            x.enter(p);
        }
        c.due("whether in", x.ask(0), 0);
        c.due("left at most", x.ask(1), 4);
        x.seen(0, 1);
        x.park(0);
        x.park(3);
        c.due("whether parked", x.ask(0), 1);
        c.due("left at most", x.ask(1), 2);
        GraceTree y = Stands.keys(4, 6, 8);
        for (int p = 0; p < 8; p++) {
            y.enter(p);
        }
        y.step(0);
        y.step(7);
        y.step(7);
        c.due("the key", y.ask(0), 2);
        c.due("left at most", y.ask(1), 6);
    }

    static void promise36OneIsLeft(Check c) {
        for (int p = 0; p < 8; p++) {
            GraceTree x = new GraceTree();
            x.enter(p);
            x.seen(0, 1);
            c.due("ask(0), reader " + p, x.ask(0), 0);
            c.due("ask(1), reader " + p, x.ask(1), 1);
        }
    }

    static void promise36AllDiffer(Check c) {
        GraceTree x = Stands.keys(0, 1, 2, 3, 4, 5, 6);
        for (int p = 0; p < 8; p++) {
            x.enter(p);
            for (int i = 0; i < p; i++) {
                x.step(p);
            }
        }
        c.due("ask(0)", x.ask(0), 2);
        c.due("ask(1)", x.ask(1), 1);
    }

    static void promise36NoneIsNoRefusal(Check c) {
        GraceTree x = new GraceTree();
        x.seen(0, 1);
        x.ask(0);
        x.ask(2);
        c.due("status()", x.status(), 0);
        c.due("count(10)", x.count(10), 0);
    }
}
