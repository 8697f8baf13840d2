/** Boundary cases of promise 27, one by one: acts taken back. */
public final class BoundsUndoTest {
    public static void main(String[] args) {
        Cases.run(BoundsUndoTest.class);
    }

    private interface Act {
        int on(GraceTree x);
    }

    /** An act that is done, told by undo() with its number, and leaves nothing. */
    private static void takenBack(Check c, GraceTree x, String call, Act act, int told) {
        String before = Refusal.tell(x);
        c.so(call + " is done", act.on(x) >= 0);
        c.due("undo() of " + call, x.undo(), told);
        c.due("status()", x.status(), 0);
        c.same("what stands behind the undo() of " + call, Refusal.tell(x), before);
    }

    // ---- "put() (told as 0), drop() (1), enter() (2), step() (3), park() (4), leave() (5), ..."

    static void promise27APut(Check c) {
        takenBack(c, Stands.keys(4, 8), "put", x -> x.put(6, 1), 0);
        takenBack(c, Stands.keys(4, 8), "a copy", x -> x.put(4, 1), 0);
        takenBack(c, new GraceTree(), "the first put", x -> x.put(4, 1), 0);
    }

    static void promise27ADrop(Check c) {
        takenBack(c, Stands.keys(4, 8), "drop", x -> x.drop(4), 1);
        takenBack(c, Stands.keys(4), "the drop of the last", x -> x.drop(4), 1);
    }

    static void promise27AnEnter(Check c) {
        takenBack(c, Stands.keys(4), "enter", x -> x.enter(7), 2);
    }

    static void promise27AStep(Check c) {
        GraceTree x = Stands.keys(4);
        x.enter(7);
        takenBack(c, x, "step", y -> y.step(7), 3);
        c.due("of(7, 1)", x.of(7, 1), 0);
    }

    static void promise27APark(Check c) {
        GraceTree x = Stands.grace();
        x.enter(7);
        takenBack(c, x, "park", y -> y.park(7), 4);
        c.due("held", x.of(7, 3), 0);
    }

    static void promise27ALeave(Check c) {
        GraceTree x = Stands.keys(4, 8);
        x.enter(7);
        x.step(7);
        takenBack(c, x, "leave", y -> y.leave(7), 5);
        c.due("of(7, 1)", x.of(7, 1), 1);
    }

    static void promise27ALeaveThatEndedAGrace(Check c) {
        GraceTree x = Stands.keys(4, 8);
        x.enter(7);
        x.park(7);
        x.drop(4);
        x.begin();
        x.drop(8);
        x.hurry();
        takenBack(c, x, "leave", y -> y.leave(7), 5);
        c.due("held", x.of(7, 3), 1);
        c.due("current", x.old(1, 0), 0);
        c.due("waiting", x.old(0, 0), 1);
    }

    static void promise27ATick(Check c) {
        takenBack(c, Stands.grace(), "tick", x -> x.tick(0), 6);
        takenBack(c, new GraceTree(), "a tick that does nothing", x -> x.tick(0), 6);
    }

    static void promise27ATickThatEndedAGrace(Check c) {
        takenBack(c, Stands.graceButSeven(), "tick", x -> x.tick(7), 6);
        GraceTree x = Stands.graceButSeven();
        x.put(2, 2);
        x.drop(2);
        takenBack(c, x, "tick behind which the next one began", y -> y.tick(7), 6);
        c.due("count(3)", x.count(3), 1);
        c.due("node(1)", x.node(1), 2);
    }

    static void promise27ABegin(Check c) {
        GraceTree x = Stands.waiting();
        x.enter(0);
        x.park(0);
        takenBack(c, x, "begin", GraceTree::begin, 7);
        c.due("held", x.of(0, 3), 0);
        c.due("waiting", x.old(0, 0), 0);
    }

    /** WAITING and CURRENT ones come back in the order in which they became OLD. */
    static void promise27OldOnesInTheirOrder(Check c) {
        GraceTree x = Stands.keys(4, 6, 8);
        x.drop(8);
        x.drop(4);
        x.begin();
        x.drop(6);
        x.hurry();
        c.due("undo() of the hurry", x.undo(), 8);
        c.due("current", x.old(1, 0), 2);
        c.due("current", x.old(1, 1), 0);
        c.due("waiting", x.old(0, 0), 1);
        c.due("undo() of the drop", x.undo(), 1);
        c.due("undo() of the begin", x.undo(), 7);
        c.due("waiting", x.old(0, 0), 2);
        c.due("waiting", x.old(0, 1), 0);
    }

    static void promise27AHurry(Check c) {
        takenBack(c, Stands.grace(), "hurry", GraceTree::hurry, 8);
    }

    /** "what all REPORTS COST, TIME are as they were". */
    static void promise27CostAndTime(Check c) {
        GraceTree x = Stands.waiting();
        x.terms(0, 999);
        x.begin();
        x.hurry();
        x.undo();
        c.due("cost", x.count(5), 0);
        c.due("time that stayed", x.count(16), 999);
        GraceTree y = Stands.grace();
        y.hurry();
        y.undo();
        c.due("time", y.count(16), 0);
    }

    // ---- "by ORDERS, too (16 are kept)"

    static void promise27SixteenAreKept(Check c) {
        GraceTree x = new GraceTree();
        for (int key = 0; key < 16; key++) {
            x.put(key, 1);
        }
        c.due("count(8)", x.count(8), 16);
        for (int left = 15; left >= 0; left--) {
            c.due("undo()", x.undo(), 0);
            c.due("count(0)", x.count(0), left);
        }
        c.due("undo()", x.undo(), -3);
    }

    static void promise27OfSeventeenTheFirstIsLost(Check c) {
        GraceTree x = new GraceTree();
        for (int key = 0; key < 17; key++) {
            x.put(key, 1);
        }
        c.due("count(8)", x.count(8), 16);
        for (int i = 0; i < 16; i++) {
            c.due("undo()", x.undo(), 0);
        }
        c.due("undo()", x.undo(), -3);
        c.due("the first stands", x.find(0), 1);
        c.due("it alone", x.count(0), 1);
    }

    /** Around the row in which they are kept, more than once. */
    static void promise27FarMoreThanSixteen(Check c) {
        GraceTree x = new GraceTree();
        for (int i = 0; i < 53; i++) {
            x.put(4, i);
            x.drop(4);
            x.begin();
            x.hurry();
        }
        c.due("count(8)", x.count(8), 16);
        int[] told = {8, 7, 1, 0};
        for (int i = 0; i < 16; i++) {
            c.due("undo()", x.undo(), told[i % 4]);
        }
        c.due("graces", x.count(3), 49);
        c.due("undo()", x.undo(), -3);
    }

    static void promise27EachOfTheOrders(Check c) {
        GraceTree x = new GraceTree();
        Feeder.orders(x, "put 1 as 1; put 2 as 2 times 2; enter 0 if 1=2; drop 1");
        c.due("count(8)", x.count(8), 4);
        c.due("undo()", x.undo(), 1);
        c.due("undo()", x.undo(), 0);
        c.due("one copy less", x.count(1), 0);
        c.due("undo()", x.undo(), 0);
        c.due("undo()", x.undo(), 0);
        c.due("undo()", x.undo(), -3);
    }

    static void promise27OrdersOfMoreThanSixteen(Check c) {
        GraceTree x = new GraceTree();
        Feeder.orders(x, "put done as done times 20");
        c.due("count(8)", x.count(8), 16);
        for (int i = 0; i < 16; i++) {
            x.undo();
        }
        c.due("undo()", x.undo(), -3);
        c.due("count(0)", x.count(0), 4);
    }

    // ---- "-3 there is none"

    static void promise27NothingToUndo(Check c) {
        Refusal.due(c, "undo()", GraceTree::new, GraceTree::undo, -3);
        Refusal.due(c, "all is undone", () -> {
            GraceTree x = Stands.keys(4);
            x.undo();
            return x;
        }, GraceTree::undo, -3);
    }

    static void promise27AnUndoIsNotUndone(Check c) {
        GraceTree x = Stands.keys(4);
        x.undo();
        c.due("undo()", x.undo(), -3);
        c.due("count(0)", x.count(0), 0);
    }

    static void promise27RefusedActsAreNotKept(Check c) {
        GraceTree x = Stands.keys(4);
        x.put(100, 1);
        x.drop(5);
        x.enter(8);
        x.step(0);
        x.park(0);
        x.leave(0);
        x.tick(8);
        x.begin();
        x.hurry();
        c.due("count(8)", x.count(8), 1);
        c.due("undo()", x.undo(), 0);
        c.due("count(0)", x.count(0), 0);
    }

    /** A refused act must not push out the oldest of sixteen either. */
    static void promise27RefusedActsPushNothingOut(Check c) {
        GraceTree x = new GraceTree();
        for (int key = 0; key < 16; key++) {
            x.put(key, 1);
        }
        for (int i = 0; i < 20; i++) {
            x.put(100, 1);
        }
        for (int i = 0; i < 16; i++) {
            c.due("undo()", x.undo(), 0);
        }
        c.due("count(0)", x.count(0), 0);
    }

    // ---- "nothing that was ahead of a terms(), row(), back() that was not REFUSED can be undone"

    static void promise27NothingAheadOfTerms(Check c) {
        GraceTree x = Stands.keys(4);
        x.terms(1, 1);
        c.due("count(8)", x.count(8), 0);
        c.due("undo()", x.undo(), -3);
        x.put(5, 1);
        c.due("what is behind it", x.undo(), 0);
        c.due("no more", x.undo(), -3);
    }

    static void promise27NothingAheadOfARow(Check c) {
        GraceTree x = Stands.keys(4);
        Feeder.row(x, 5, 1);
        c.due("undo()", x.undo(), -3);
        c.due("the row stands", x.find(5), 1);
        GraceTree y = Stands.keys(4);
        Feeder.row(y, 200);
        c.due("a row of tears alone", y.undo(), -3);
    }

    static void promise27NothingAheadOfABack(Check c) {
        GraceTree x = Stands.keys(4);
        x.image(0);
        x.put(5, 1);
        x.back(0);
        c.due("undo()", x.undo(), -3);
    }

    static void promise27RefusedOnesLeaveIt(Check c) {
        GraceTree x = Stands.keys(4);
        x.terms(3, 1);
        c.due("terms()", x.count(8), 1);
        x.row();
        c.due("row()", x.count(8), 1);
        x.back(0);
        c.due("back(), not kept", x.count(8), 1);
        x.back(2);
        c.due("back(), no such", x.count(8), 1);
        c.due("undo()", x.undo(), 0);
    }

    /** No other call is said to end it. */
    static void promise27OtherCallsLeaveIt(Check c) {
        GraceTree x = Stands.keys(4);
        Feeder.law(x, "costs 2");
        x.force(0);
        x.seen(0, 1);
        x.forget();
        x.image(0);
        x.days(5, 60);
        Feeder.orders(x, "begin");
        Feeder.orders(x, "begi");
        Feeder.feed(x, "abc");
        c.due("count(8)", x.count(8), 1);
        c.due("undo()", x.undo(), 0);
        c.due("laws", x.count(7), 1);
        c.due("force", x.count(15), 0);
        c.due("tape", x.count(9), 3);
    }

    /** Only what is listed comes back: LAWS, SEEN, TAPE and what was refused stay. */
    static void promise27WhatItDoesNotGiveBack(Check c) {
        GraceTree x = Stands.keys(4);
        Feeder.law(x, "costs 2");
        x.force(0);
        x.seen(0, 1);
        Feeder.feed(x, "abc");
        x.put(100, 1);
        x.undo();
        c.due("laws", x.count(7), 1);
        c.due("force", x.count(15), 0);
        c.due("seen", x.count(6), 1);
        c.due("tape", x.count(9), 3);
        c.due("refused", x.count(10), 1);
    }
}
