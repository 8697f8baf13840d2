/** Promises 33 to 36: what was SEEN, who it can be, what to ASK. */
public final class CluesTest {
    private static final Check CHECK = new Check("CluesTest");

    public static void main(String[] args) {
        seen();
        canBe();
        ask();
        CHECK.report();
    }

    private static void seen() {
        GraceTree x = new GraceTree();
        x.put(1, 1);
        CHECK.due("forget() of nothing", x.forget(), 0);
        int[][] wrong = {{-1, 0}, {3, 0}, {0, -1}, {0, 101}, {2, 101}};
        for (int[] w : wrong) {
            CHECK.due("seen(" + w[0] + ", " + w[1] + ")", x.seen(w[0], w[1]), -1);
        }
        CHECK.due("count(10)", x.count(10), wrong.length);
        for (int i = 1; i <= 6; i++) {
            CHECK.due("seen()", x.seen(i % 3, i == 6 ? 100 : 0), i);
            CHECK.due("count(6)", x.count(6), i);
        }
        CHECK.due("a seventh", x.seen(0, 0), -5);
        CHECK.due("status()", x.status(), -5);
        CHECK.due("a number that can't be comes first", x.seen(3, 0), -1);
        CHECK.due("it leaves what can be undone", x.count(8), 1);
        CHECK.due("forget()", x.forget(), 6);
        CHECK.due("status() is not of forget()", x.status(), -1);
        CHECK.due("count(6)", x.count(6), 0);
        CHECK.due("forget() again", x.forget(), 0);
        CHECK.due("canBe() behind it", x.canBe(), 255);
    }

    private static GraceTree readers() {
        GraceTree x = new GraceTree();
        x.put(10, 1);
        x.put(20, 2);
        x.enter(0);
        x.enter(1);
        x.step(1);
        x.enter(2);
        x.step(2);
        x.step(2);
        x.enter(3);
        x.park(3);
        x.drop(10);
        return x;
    }

    private static void canBe() {
        GraceTree x = readers();
        CHECK.due("nothing seen", x.canBe(), 255);
        x.seen(0, 1);
        CHECK.due("in", x.canBe(), 15);
        x.seen(1, 0);
        CHECK.due("in, not parked", x.canBe(), 7);
        x.seen(2, 100);
        CHECK.due("at the end", x.canBe(), 4);
        x.seen(2, 10);
        CHECK.due("nobody", x.canBe(), 0);
        x.forget();
        x.seen(2, 10);
        CHECK.due("at an old cell", x.canBe(), 1 + 8);
        x.forget();
        x.seen(2, 20);
        CHECK.due("at a live cell", x.canBe(), 2);
        x.forget();
        x.seen(2, 100);
        CHECK.due("at none", x.canBe(), 4 + 240);
        x.forget();
        x.seen(0, 50);
        CHECK.due("what can't be", x.canBe(), 0);
        x.forget();
        x.seen(1, 1);
        CHECK.due("parked", x.canBe(), 8);
        x.leave(3);
        CHECK.due("as it is now", x.canBe(), 0);
    }

    private static void ask() {
        GraceTree x = readers();
        CHECK.due("by whether in: 4 and 4", x.ask(0), 0);
        CHECK.due("ask(1)", x.ask(1), 4);
        x.seen(0, 1);
        CHECK.due("by the key: 2, 1, 1", x.ask(0), 2);
        CHECK.due("ask(1)", x.ask(1), 2);
        x.forget();
        x.seen(2, 10);
        CHECK.due("by whether parked", x.ask(0), 1);
        CHECK.due("ask(1)", x.ask(1), 1);
        x.seen(1, 1);
        CHECK.due("one is left", x.ask(0), 0);
        CHECK.due("ask(1)", x.ask(1), 1);
        CHECK.due("ask(2)", x.ask(2), -1);
        CHECK.due("ask(-1)", x.ask(-1), -1);
        x.seen(1, 0);
        CHECK.due("nobody", x.ask(0), -1);
        CHECK.due("nobody", x.ask(1), -1);
        CHECK.due("no refusal", x.count(10), 0);
        GraceTree y = new GraceTree();
        y.enter(0);
        y.seen(0, 1);
        CHECK.due("the first reader alone", y.ask(1), 1);
        y.forget();
        y.seen(0, 0);
        CHECK.due("all but the first", y.ask(1), 7);
    }
}
