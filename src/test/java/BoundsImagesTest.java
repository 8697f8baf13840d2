import java.util.function.ToIntFunction;

/** Boundary cases of promises 41 to 44, one by one: IMAGES, counts, status. */
public final class BoundsImagesTest {
    private static final int MIN = Integer.MIN_VALUE;
    private static final int MAX = Integer.MAX_VALUE;

    public static void main(String[] args) {
        Cases.run(BoundsImagesTest.class);
    }

    // ---- 41: image

    /** IV: "IMAGES 0, 1". */
    static void promise41ImagesZeroAndOne(Check c) {
        GraceTree x = new GraceTree();
        c.due("image(0)", x.image(0), 0);
        c.due("image(1)", x.image(1), 0);
        c.due("status()", x.status(), 0);
    }

    /** "-1". */
    static void promise41NoSuchImage(Check c) {
        for (int k : new int[] {-1, 2, MIN, MAX}) {
            Refusal.due(c, "image(" + k + ")", () -> Stands.keys(4), x -> x.image(k), -1);
        }
    }

    static void promise41ARefusedOneKeepsNothing(Check c) {
        GraceTree x = Stands.keys(4);
        x.image(0);
        x.put(5, 5);
        x.image(2);
        x.image(-1);
        c.due("back(1)", x.back(1), -2);
        x.back(0);
        c.due("count(0)", x.count(0), 1);
    }

    static void promise41KeptOnceMore(Check c) {
        GraceTree x = Stands.keys(4);
        x.image(0);
        x.put(5, 5);
        c.due("image(0)", x.image(0), 0);
        x.put(6, 6);
        x.back(0);
        c.due("count(0)", x.count(0), 2);
    }

    static void promise41ItChangesNothing(Check c) {
        GraceTree x = Stands.grace();
        Feeder.feed(x, "abc");
        String before = Refusal.tell(x);
        x.image(1);
        c.same("behind image(1)", Refusal.tell(x), before);
        c.due("tape", x.count(9), 3);
    }

    // ---- 42: back

    static void promise42NoSuchImage(Check c) {
        for (int k : new int[] {-1, 2, MIN, MAX}) {
            Refusal.due(c, "back(" + k + ")", () -> {
                GraceTree x = new GraceTree();
                x.image(0);
                x.image(1);
                x.put(4, 4);
                return x;
            }, x -> x.back(k), -1);
        }
    }

    /** "-2 it was not kept." */
    static void promise42NotKept(Check c) {
        Refusal.due(c, "back(0)", () -> {
            GraceTree x = Stands.keys(4);
            x.image(1);
            x.put(5, 5);
            return x;
        }, x -> x.back(0), -2);
        Refusal.due(c, "back(1)", () -> {
            GraceTree x = Stands.keys(4);
            x.image(0);
            x.put(5, 5);
            return x;
        }, x -> x.back(1), -2);
    }

    /** "The first of these in that order." */
    static void promise42ABadNumberComesFirst(Check c) {
        Refusal.due(c, "back(2), not kept either", GraceTree::new, x -> x.back(2), -1);
    }

    /** "all that it keeps is as it was then". */
    static void promise42AllIsAsItWas(Check c) {
        GraceTree x = Stands.keys(4, 6);
        Feeder.law(x, "costs 3");
        x.force(0);
        x.terms(0, 998);
        x.terms(1, 10);
        x.terms(2, 9);
        x.enter(7);
        x.park(7);
        x.drop(4);
        x.begin();
        x.tick(0);
        x.put(6, 7);
        x.seen(0, 1);
        x.image(0);
        // what can be undone is kept by no IMAGE
        String before = Refusal.tell(x).replaceAll("k8:\\d+", "k8:0");
        x.hurry();
        x.leave(7);
        x.hurry();
        x.forget();
        x.seen(2, 50);
        x.seen(2, 60);
        x.force(-1);
        Feeder.law(x, "costs 4");
        x.terms(1, 0);
        x.terms(2, 0);
        x.put(9, 9);
        x.drop(9);
        x.begin();
        x.put(8, 8);
        x.put(9, 9);
        x.drop(9);
        x.enter(0);
        c.due("back(0)", x.back(0), 0);
        c.same("behind back(0)", Refusal.tell(x), before);
        c.due("current", x.old(1, 0), 0);
        c.due("waiting", x.old(0, 0), 1);
        c.due("what was seen", x.canBe(), 128);
    }

    static void promise42SixSeen(Check c) {
        GraceTree x = Stands.keys(4);
        x.enter(0);
        x.enter(1);
        x.park(1);
        for (int i = 0; i < 5; i++) {
            x.seen(0, 1);
        }
        x.seen(1, 1);
        x.image(0);
        x.forget();
        for (int i = 0; i < 6; i++) {
            x.seen(2, 100);
        }
        x.back(0);
        c.due("count(6)", x.count(6), 6);
        c.due("canBe()", x.canBe(), 2);
    }

    static void promise42ToAnEmptyObject(Check c) {
        GraceTree x = new GraceTree();
        x.image(1);
        x.put(4, 4);
        x.drop(4);
        x.begin();
        x.enter(0);
        x.seen(0, 1);
        x.back(1);
        c.same("behind back(1)", Refusal.tell(x), Refusal.tell(new GraceTree()));
    }

    /** "(nothing, behind back())": what can be undone. */
    static void promise42NothingCanBeUndoneBehindIt(Check c) {
        GraceTree x = Stands.keys(4);
        x.image(0);
        x.back(0);
        c.due("count(8)", x.count(8), 0);
        c.due("undo()", x.undo(), -3);
    }

    /** "all but the TAPE, FAULT, TEARS, where ORDERS stopped, ..., the latest DAYS". */
    static void promise42TheTapeStays(Check c) {
        GraceTree x = new GraceTree();
        Feeder.feed(x, "bars");
        x.image(0);
        x.end(2);
        x.back(0);
        c.due("count(9)", x.count(9), 2);
    }

    static void promise42TheFaultStays(Check c) {
        GraceTree x = new GraceTree();
        Feeder.law(x, "bar");
        x.image(0);
        Feeder.law(x, "bars 1");
        x.back(0);
        c.due("fault()", x.fault(), 5);
    }

    static void promise42TheTearsStay(Check c) {
        GraceTree x = new GraceTree();
        Feeder.row(x, 200, 200, 200);
        x.image(0);
        Feeder.row(x, 200);
        x.back(0);
        c.due("tears()", x.tears(), 1);
    }

    static void promise42WhereOrdersStoppedStays(Check c) {
        GraceTree x = new GraceTree();
        x.image(0);
        Feeder.orders(x, "tick 0; begin");
        x.back(0);
        c.due("stopped()", x.stopped(), 1);
    }

    static void promise42TheLatestDaysStay(Check c) {
        GraceTree x = Stands.keys(5);
        x.image(0);
        // SEED 28 drops KEY 5
        x.days(28, 1);
        x.back(0);
        c.due("drawn(0)", x.drawn(0), 2);
    }

    /** 43: "(IMAGES do not keep that)". */
    static void promise42WhatWasRefusedStays(Check c) {
        GraceTree x = new GraceTree();
        x.put(100, 0);
        x.image(0);
        x.put(100, 0);
        x.force(0);
        x.hurry();
        x.row();
        for (int i = 0; i < 25; i++) {
            x.put(i, i);
        }
        x.back(0);
        int[] due = {2, 1, 1, 1, 1};
        for (int i = 0; i < 5; i++) {
            c.due("count(" + (10 + i) + ")", x.count(10 + i), due[i]);
        }
    }

    /** "(IMAGES stay)". */
    static void promise42ImagesStay(Check c) {
        GraceTree x = Stands.keys(4);
        x.image(0);
        x.put(5, 5);
        x.image(1);
        x.back(0);
        c.due("image 0", x.count(0), 1);
        c.due("back(1)", x.back(1), 0);
        c.due("image 1", x.count(0), 2);
        x.put(6, 6);
        c.due("back(1) again", x.back(1), 0);
        c.due("image 1", x.count(0), 2);
        c.due("back(0) again", x.back(0), 0);
        c.due("image 0", x.count(0), 1);
    }

    static void promise42LawsOfAnImageGiveRoom(Check c) {
        GraceTree x = new GraceTree();
        x.image(0);
        for (int i = 0; i < 6; i++) {
            Feeder.law(x, "costs 5");
        }
        c.due("no room", Feeder.law(x, "costs 5"), -5);
        x.image(1);
        x.back(0);
        c.due("law()", Feeder.law(x, "costs 6"), 0);
        c.due("compare(0, 1, 0)", x.compare(0, 1, 0), 6);
        x.back(1);
        c.due("the image's own law", x.compare(0, 1, 0), 5);
        c.due("no room", Feeder.law(x, "costs 5"), -5);
    }

    // ---- 43: count

    /** "NONE for others." */
    static void promise43NoSuchCount(Check c) {
        GraceTree x = Stands.grace();
        for (int what : new int[] {-1, 19, 20, MIN, MAX}) {
            c.due("count(" + what + ")", x.count(what), -1);
        }
    }

    static void promise43FirstAndLast(Check c) {
        GraceTree x = Stands.keys(4);
        x.terms(2, 9);
        c.due("count(0)", x.count(0), 1);
        c.due("count(18)", x.count(18), 9);
    }

    static void promise43CellsFrom0To24(Check c) {
        GraceTree x = new GraceTree();
        c.due("in the list", x.count(0), 0);
        GraceTree y = Stands.full();
        c.due("in the list", y.count(0), 24);
        for (int key = 0; key < 24; key++) {
            y.drop(key);
        }
        c.due("in the list", y.count(0), 0);
        c.due("waiting", y.count(1), 24);
        c.due("current", y.count(2), 0);
        y.begin();
        c.due("waiting", y.count(1), 0);
        c.due("current", y.count(2), 24);
        y.hurry();
        c.due("current", y.count(2), 0);
    }

    static void promise43GracesAndWhetherOneRuns(Check c) {
        GraceTree x = Stands.waiting();
        c.due("count(3)", x.count(3), 0);
        c.due("count(4)", x.count(4), 0);
        x.begin();
        c.due("count(3)", x.count(3), 1);
        c.due("count(4)", x.count(4), 1);
        x.hurry();
        c.due("count(3)", x.count(3), 1);
        c.due("count(4)", x.count(4), 0);
    }

    /** "15 the LAW in FORCE": NONE without. */
    static void promise43NoLawInForce(Check c) {
        GraceTree x = Stands.law("costs 1");
        c.due("count(15)", x.count(15), 0);
        x.force(-1);
        c.due("count(15)", x.count(15), -1);
    }

    /** "10 .. 14 how many calls were REFUSED by -1, -2, -3, -5, -6": each by its own. */
    static void promise43EachRefusalByItsOwn(Check c) {
        GraceTree x = new GraceTree();
        x.put(-1, 0);
        c.due("count(10)", x.count(10), 1);
        x.force(0);
        x.back(0);
        c.due("count(11)", x.count(11), 2);
        x.hurry();
        x.undo();
        x.drop(1);
        c.due("count(12)", x.count(12), 3);
        for (int i = 0; i < 10; i++) {
            x.seen(0, 0);
        }
        c.due("count(13)", x.count(13), 4);
        for (int i = 0; i < 5; i++) {
            x.row();
        }
        c.due("count(14)", x.count(14), 5);
        int[] due = {1, 2, 3, 4, 5};
        for (int i = 0; i < 5; i++) {
            c.due("count(" + (10 + i) + ")", x.count(10 + i), due[i]);
        }
    }

    /** Every call that status() knows and that can be refused is counted. */
    static void promise43EveryCallIsCounted(Check c) {
        Refusal.due(c, "terms", GraceTree::new, x -> x.terms(3, 0), -1);
        Refusal.due(c, "row", GraceTree::new, GraceTree::row, -6);
        Refusal.due(c, "law", GraceTree::new, GraceTree::law, -6);
        Refusal.due(c, "orders", GraceTree::new, GraceTree::orders, -6);
        Refusal.due(c, "force", GraceTree::new, x -> x.force(0), -2);
        Refusal.due(c, "put", GraceTree::new, x -> x.put(100, 0), -1);
        Refusal.due(c, "drop", GraceTree::new, x -> x.drop(0), -3);
        Refusal.due(c, "enter", GraceTree::new, x -> x.enter(8), -1);
        Refusal.due(c, "step", GraceTree::new, x -> x.step(0), -3);
        Refusal.due(c, "park", GraceTree::new, x -> x.park(0), -3);
        Refusal.due(c, "leave", GraceTree::new, x -> x.leave(0), -3);
        Refusal.due(c, "tick", GraceTree::new, x -> x.tick(8), -1);
        Refusal.due(c, "begin", GraceTree::new, GraceTree::begin, -3);
        Refusal.due(c, "hurry", GraceTree::new, GraceTree::hurry, -3);
        Refusal.due(c, "undo", GraceTree::new, GraceTree::undo, -3);
        Refusal.due(c, "seen", GraceTree::new, x -> x.seen(3, 0), -1);
        Refusal.due(c, "days", GraceTree::new, x -> x.days(0, 0), -1);
        Refusal.due(c, "image", GraceTree::new, x -> x.image(2), -1);
        Refusal.due(c, "back", GraceTree::new, x -> x.back(0), -2);
    }

    /** Askers tell NONE; they refuse nothing. */
    static void promise43AskersAreNotCounted(Check c) {
        GraceTree x = new GraceTree();
        x.of(8, 0);
        x.cell(24, 0);
        x.list(0);
        x.find(0);
        x.node(0);
        x.old(0, 0);
        x.feed(0, 0, 0, 0, 0);
        x.end(21);
        x.sees(0, 0);
        x.reach(24);
        x.why(0);
        x.least();
        x.ask(2);
        x.few(0, 0);
        x.compare(0, 1, 0);
        x.drawn(0);
        x.count(19);
        for (int what = 10; what <= 14; what++) {
            c.due("count(" + what + ")", x.count(what), 0);
        }
        c.due("status()", x.status(), 0);
    }

    // ---- 44: status

    /** "0 ... ahead of any". */
    static void promise44AheadOfAny(Check c) {
        c.due("status()", new GraceTree().status(), 0);
    }

    private static void clears(Check c, GraceTree x, String call, ToIntFunction<GraceTree> act) {
        // a TAPE that is wanted by the call stays, as image() does not look at it
        x.image(-1);
        c.due("status() ahead of " + call, x.status(), -1);
        act.applyAsInt(x);
        c.due("status() behind " + call, x.status(), 0);
    }

    /** "0 if it was not": each of the calls it knows. */
    static void promise44EachCallThatIsNotRefused(Check c) {
        GraceTree x = Stands.keys(4);
        clears(c, x, "terms", y -> y.terms(0, 5));
        clears(c, x, "row", y -> Feeder.row(y, 5, 5));
        clears(c, x, "law", y -> Feeder.law(y, "costs 1"));
        clears(c, x, "orders", y -> Feeder.orders(y, "tick 0"));
        clears(c, x, "force", y -> y.force(0));
        clears(c, x, "put", y -> y.put(6, 6));
        clears(c, x, "drop", y -> y.drop(6));
        clears(c, x, "enter", y -> y.enter(0));
        clears(c, x, "step", y -> y.step(0));
        clears(c, x, "park", y -> y.park(0));
        clears(c, x, "leave", y -> y.leave(0));
        clears(c, x, "tick", y -> y.tick(0));
        clears(c, x, "begin", GraceTree::begin);
        clears(c, x, "hurry", GraceTree::hurry);
        clears(c, x, "undo", GraceTree::undo);
        clears(c, x, "seen", y -> y.seen(0, 0));
        clears(c, x, "days", y -> y.days(0, 1));
        clears(c, x, "image", y -> y.image(0));
        clears(c, x, "back", y -> y.back(0));
    }

    /** Calls that it does not know leave it, be it a refusal or none. */
    static void promise44OtherCallsLeaveIt(Check c) {
        GraceTree x = Stands.keys(4);
        x.hurry();
        x.of(0, 0);
        x.cell(0, 0);
        x.list(0);
        x.find(4);
        x.node(1);
        x.old(0, 0);
        x.feed(0, 0, 0, 0, 0);
        x.end(0);
        x.tears();
        x.fault();
        x.stopped();
        x.sees(0, 0);
        x.reach(0);
        x.holders();
        x.why(0);
        x.least();
        x.forget();
        x.canBe();
        x.ask(0);
        x.few(1, 1);
        x.compare(-1, 1, 0);
        x.drawn(0);
        x.count(0);
        c.due("status()", x.status(), -3);
        c.due("status() again", x.status(), -3);
    }

    /** A call that tells NONE, or a number that looks like a refusal, was not refused. */
    static void promise44AnAnswerBelow0ThatIsNoRefusal(Check c) {
        GraceTree x = Stands.law("costs 1");
        x.force(-1);
        c.due("force(0) tells that none was", x.force(0), -1);
        c.due("status()", x.status(), 0);
        c.due("count(10)", x.count(10), 0);
    }
}
