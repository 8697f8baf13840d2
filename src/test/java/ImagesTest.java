/** Promises 41 to 44: IMAGES, counts, status. */
public final class ImagesTest {
    private static final Check CHECK = new Check("ImagesTest");

    public static void main(String[] args) {
        wrongOnes();
        keeps();
        doesNotKeep();
        stays();
        lawsOfImages();
        counts();
        status();
        CHECK.report();
    }

    private static void wrongOnes() {
        GraceTree x = new GraceTree();
        int[] wrong = {-1, 2, Integer.MIN_VALUE, Integer.MAX_VALUE};
        for (int k : wrong) {
            CHECK.due("image(" + k + ")", x.image(k), -1);
            CHECK.due("back(" + k + ")", x.back(k), -1);
        }
        CHECK.due("back(0)", x.back(0), -2);
        CHECK.due("status()", x.status(), -2);
        CHECK.due("image(0)", x.image(0), 0);
        CHECK.due("back(1)", x.back(1), -2);
        CHECK.due("back(0)", x.back(0), 0);
        CHECK.due("count(10)", x.count(10), 8);
        CHECK.due("count(11)", x.count(11), 2);
    }

    private static void keeps() {
        GraceTree x = new GraceTree();
        Feeder.law(x, "costs 3");
        x.force(0);
        x.terms(0, 5);
        x.terms(1, 6);
        x.terms(2, 7);
        x.put(1, 10);
        x.put(1, 11);
        x.enter(2);
        x.park(2);
        x.begin();
        x.tick(3);
        x.seen(0, 1);
        x.image(1);
        x.hurry();
        x.leave(2);
        x.put(8, 8);
        x.drop(1);
        x.begin();
        x.terms(1, 0);
        x.terms(2, 0);
        x.force(-1);
        Feeder.law(x, "costs 4");
        x.seen(1, 1);
        x.put(9, 9);
        CHECK.due("back(1)", x.back(1), 0);
        int[] counts = {1, 0, 1, 1, 1, 3, 1, 1, 0};
        for (int i = 0; i < counts.length; i++) {
            CHECK.due("count(" + i + ")", x.count(i), counts[i]);
        }
        CHECK.due("count(15)", x.count(15), 0);
        CHECK.due("count(16)", x.count(16), 5);
        CHECK.due("count(17)", x.count(17), 6);
        CHECK.due("count(18)", x.count(18), 7);
        CHECK.due("of(2, 3)", x.of(2, 3), 1);
        CHECK.due("of(2, 1)", x.of(2, 1), 1);
        CHECK.due("node(5)", x.node(5), 1);
        CHECK.due("old(1, 0)", x.old(1, 0), 0);
        CHECK.due("find(1)", x.find(1), 11);
        CHECK.due("cell(2, 0)", x.cell(2, 0), 0);
        CHECK.due("canBe()", x.canBe(), 4);
        CHECK.due("undo()", x.undo(), -3);
    }

    private static void doesNotKeep() {
        GraceTree x = new GraceTree();
        x.image(0);
        x.put(1, 1);
        Feeder.law(x, "costs (");
        Feeder.row(x, 200, 1, 2);
        Feeder.orders(x, "begin");
        x.days(1, 1);
        x.put(7, 7);
        x.days(1, 1);
        int drawn = x.drawn(0);
        Feeder.feed(x, "abc");
        CHECK.due("back(0)", x.back(0), 0);
        CHECK.due("the tape", x.count(9), 3);
        CHECK.due("fault()", x.fault(), -1);
        CHECK.due("tears()", x.tears(), 2);
        CHECK.due("stopped()", x.stopped(), 0);
        CHECK.due("drawn()", x.drawn(0), drawn);
        CHECK.due("count(12)", x.count(12), 1);
        CHECK.due("count(14)", x.count(14), 1);
        CHECK.due("what can be undone", x.count(8), 0);
        x.end(0);
        Feeder.law(x, "bars 1");
        x.back(0);
        CHECK.due("fault()", x.fault(), 5);
    }

    private static void stays() {
        GraceTree x = new GraceTree();
        x.put(1, 1);
        x.image(0);
        CHECK.due("an image leaves what can be undone", x.count(8), 1);
        x.put(2, 2);
        x.image(1);
        x.back(0);
        CHECK.due("count(0)", x.count(0), 1);
        x.put(3, 3);
        x.put(4, 4);
        x.back(1);
        CHECK.due("count(0)", x.count(0), 2);
        x.put(3, 3);
        x.back(1);
        CHECK.due("again", x.count(0), 2);
        x.drop(1);
        x.image(1);
        x.back(0);
        x.back(1);
        CHECK.due("kept anew", x.count(0), 1);
        CHECK.due("count(1)", x.count(1), 1);
        cellsUsedAgain();
        cluesOfImages();
    }

    private static void cellsUsedAgain() {
        GraceTree x = new GraceTree();
        x.put(1, 10);
        x.put(3, 30);
        x.put(5, 50);
        x.drop(3);
        x.enter(7);
        x.image(0);
        x.leave(7);
        x.drop(1);
        x.drop(5);
        x.begin();
        x.hurry();
        x.put(9, 90);
        x.put(8, 80);
        x.put(7, 70);
        x.drop(7);
        x.enter(7);
        x.step(7);
        x.back(0);
        int[] keys = {1, 3, 5};
        int[] next = {2, 2, -1};
        for (int c = 0; c < 3; c++) {
            CHECK.due("key", x.cell(c, 1), keys[c]);
            CHECK.due("value", x.cell(c, 2), 10 * keys[c]);
            CHECK.due("next", x.cell(c, 3), next[c]);
        }
        CHECK.due("waiting", x.old(0, 0), 1);
        CHECK.due("the head", x.list(0), 0);
        CHECK.due("the reader's cell", x.of(7, 1), 0);
    }

    private static void cluesOfImages() {
        GraceTree x = new GraceTree();
        x.enter(3);
        x.enter(4);
        x.park(4);
        x.seen(0, 1);
        x.seen(1, 1);
        x.image(0);
        x.forget();
        x.seen(2, 50);
        x.seen(2, 60);
        x.back(0);
        CHECK.due("seen", x.count(6), 2);
        CHECK.due("canBe()", x.canBe(), 16);
        Feeder.law(x, "costs 10");
        x.image(1);
        x.back(0);
        Feeder.law(x, "costs 20");
        x.back(1);
        CHECK.due("the first law of an image", x.compare(0, 1, 0), 10);
    }

    private static void lawsOfImages() {
        GraceTree x = new GraceTree();
        Feeder.law(x, "costs 10");
        x.image(0);
        Feeder.law(x, "costs 20");
        x.force(1);
        x.image(1);
        x.back(0);
        CHECK.due("no such law", x.compare(1, 1, 0), -1);
        CHECK.due("another law by that number", Feeder.law(x, "costs 30"), 1);
        CHECK.due("compare(1, 1, 0)", x.compare(1, 1, 0), 30);
        x.back(1);
        CHECK.due("the law of the image", x.compare(1, 1, 0), 20);
        CHECK.due("count(15)", x.count(15), 1);
    }

    private static void counts() {
        GraceTree x = new GraceTree();
        CHECK.due("count(-1)", x.count(-1), -1);
        CHECK.due("count(19)", x.count(19), -1);
        CHECK.due("count(min)", x.count(Integer.MIN_VALUE), -1);
        CHECK.due("count(max)", x.count(Integer.MAX_VALUE), -1);
        CHECK.due("count(15)", x.count(15), -1);
        x.put(-1, 0);
        x.back(0);
        x.begin();
        x.hurry();
        x.row();
        x.law();
        x.orders();
        for (int i = 0; i < 25; i++) {
            x.put(i, i);
        }
        x.undo();
        int[] due = {1, 1, 2, 1, 3};
        for (int i = 0; i < 5; i++) {
            CHECK.due("count(" + (10 + i) + ")", x.count(10 + i), due[i]);
        }
        CHECK.due("count(0)", x.count(0), 23);
        CHECK.due("count(8)", x.count(8), 15);
    }

    private static void status() {
        GraceTree x = new GraceTree();
        CHECK.due("ahead of any", x.status(), 0);
        x.put(100, 0);
        CHECK.due("put()", x.status(), -1);
        x.feed(0, 0, 0, 0, 0);
        x.end(0);
        x.forget();
        x.few(0, 0);
        x.compare(9, 9, 9);
        x.ask(5);
        x.of(9, 9);
        x.count(99);
        CHECK.due("others leave it", x.status(), -1);
        x.seen(0, 0);
        CHECK.due("seen()", x.status(), 0);
        x.row();
        CHECK.due("row()", x.status(), -6);
        x.image(0);
        CHECK.due("image()", x.status(), 0);
        x.law();
        CHECK.due("law()", x.status(), -6);
        x.back(0);
        CHECK.due("back()", x.status(), 0);
        x.orders();
        CHECK.due("orders()", x.status(), -6);
        x.days(1, 1);
        CHECK.due("days()", x.status(), 0);
        x.force(0);
        CHECK.due("force()", x.status(), -2);
        x.force(-1);
        CHECK.due("force() of none", x.status(), 0);
        x.terms(0, 0);
        CHECK.due("terms()", x.status(), 0);
        x.undo();
        CHECK.due("undo()", x.status(), -3);
        x.tick(0);
        CHECK.due("tick()", x.status(), 0);
        x.hurry();
        CHECK.due("hurry()", x.status(), -3);
        x.undo();
        CHECK.due("undo()", x.status(), 0);
        x.drop(5);
        CHECK.due("drop()", x.status(), -3);
        x.enter(0);
        CHECK.due("enter()", x.status(), 0);
        x.step(0);
        CHECK.due("step()", x.status(), -3);
        x.park(0);
        CHECK.due("park()", x.status(), 0);
        x.begin();
        CHECK.due("begin()", x.status(), -3);
        x.leave(0);
        CHECK.due("leave()", x.status(), 0);
    }
}
