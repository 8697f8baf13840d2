/** Promises 28 to 32, 37, 39, 40: what is told on paper. */
public final class PaperTest {
    private static final Check CHECK = new Check("PaperTest");

    public static void main(String[] args) {
        sees();
        reach();
        holdersWhyLeast();
        few();
        days();
        daysByHand();
        CHECK.report();
    }

    private static void sees() {
        GraceTree x = new GraceTree();
        x.put(1, 1);
        x.put(3, 3);
        x.put(5, 5);
        CHECK.due("out", x.sees(0, 0), -1);
        x.enter(0);
        x.drop(1);
        x.put(2, 2);
        x.put(5, 6);
        CHECK.due("its own", x.sees(0, 0), 0);
        CHECK.due("the next", x.sees(0, 1), 1);
        CHECK.due("a copy, linked in later", x.sees(0, 2), 4);
        CHECK.due("not so many", x.sees(0, 3), -1);
        CHECK.due("sees(0, -1)", x.sees(0, -1), -1);
        CHECK.due("sees(0, max)", x.sees(0, Integer.MAX_VALUE), -1);
        CHECK.due("sees(-1, 0)", x.sees(-1, 0), -1);
        CHECK.due("sees(8, 0)", x.sees(8, 0), -1);
        x.step(0);
        x.step(0);
        x.step(0);
        CHECK.due("at the end", x.sees(0, 0), -1);
    }

    private static void reach() {
        GraceTree x = new GraceTree();
        x.put(1, 1);
        x.put(3, 3);
        x.put(5, 5);
        x.enter(0);
        x.enter(7);
        x.step(7);
        x.enter(3);
        x.park(3);
        x.drop(3);
        CHECK.due("the first", x.reach(0), 1 + 8);
        CHECK.due("the old one", x.reach(1), 128);
        CHECK.due("the last, by either way", x.reach(2), 1 + 8 + 128);
        CHECK.due("a free one", x.reach(3), 0);
        CHECK.due("reach(-1)", x.reach(-1), -1);
        CHECK.due("reach(24)", x.reach(24), -1);
        x.leave(7);
        CHECK.due("nobody comes to it", x.reach(1), 0);
    }

    private static void holdersWhyLeast() {
        GraceTree x = new GraceTree();
        x.put(1, 1);
        x.drop(1);
        CHECK.due("holders() with none", x.holders(), 0);
        CHECK.due("why(0) with none", x.why(0), -1);
        CHECK.due("least() with none", x.least(), -1);
        x.enter(1);
        x.park(1);
        x.enter(6);
        x.begin();
        CHECK.due("least()", x.least(), 8 + 1 + 1);
        x.tick(0);
        CHECK.due("why(3)", x.why(3), 11);
        x.tick(1);
        CHECK.due("why(3), held", x.why(3), 21);
        CHECK.due("holders()", x.holders(), 255 - 1);
        CHECK.due("least()", x.least(), 6 + 1 + 1);
        x.leave(1);
        CHECK.due("why(2)", x.why(2), 5);
        CHECK.due("why(3)", x.why(3), 12);
        x.tick(2);
        CHECK.due("why(3), the higher one", x.why(3), 13);
        x.hurry();
        CHECK.due("why(0)", x.why(0), 1);
        CHECK.due("why(1)", x.why(1), 3);
        CHECK.due("why(2)", x.why(2), 7);
        CHECK.due("why(3)", x.why(3), 16);
        CHECK.due("why(4)", x.why(4), -1);
        CHECK.due("why(-1)", x.why(-1), -1);
        CHECK.due("holders()", x.holders(), 64);
        CHECK.due("least(): leave, tick", x.least(), 2);
        x.park(6);
        CHECK.due("least(): tick, leave", x.least(), 2);
        x.tick(6);
        CHECK.due("why(3), held", x.why(3), 26);
        CHECK.due("least(): leave", x.least(), 1);
        x.enter(0);
        CHECK.due("one that entered behind its report does not count", x.least(), 1);
        x.leave(6);
        CHECK.due("holders()", x.holders(), 0);
    }

    private static void few() {
        GraceTree x = new GraceTree();
        CHECK.due("of none", x.few(1, 0), 1_000_000_000_000L);
        CHECK.due("of one, none lost", x.few(1, 1), 900_000_000_000L);
        CHECK.due("of one, all", x.few(2, 1), 1_000_000_000_000L);
        CHECK.due("of two, none lost", x.few(1, 2), 810_000_000_000L);
        CHECK.due("of two, fewer than two", x.few(2, 2), 990_000_000_000L);
        CHECK.due("of twelve", x.few(1, 12), 282_429_536_481L);
        CHECK.due("cut", x.few(1, 13), 254_186_582_832L);
        CHECK.due("cut again", x.few(1, 14), 228_767_924_548L);
        x.terms(1, 10);
        CHECK.due("all are lost", x.few(5, 5), 0);
        CHECK.due("all are lost, fewer than six", x.few(6, 5), 1_000_000_000_000L);
        x.terms(1, 0);
        CHECK.due("none is lost", x.few(1, 99), 1_000_000_000_000L);
        x.terms(1, 5);
        CHECK.due("by halves", x.few(20, 5), 1_000_000_000_000L);
        CHECK.due("few(0, 5)", x.few(0, 5), -1);
        CHECK.due("few(21, 5)", x.few(21, 5), -1);
        CHECK.due("few(1, -1)", x.few(1, -1), -1);
        CHECK.due("few(1, 100)", x.few(1, 100), -1);
        CHECK.due("no refusal", x.count(10), 0);
    }

    private static void days() {
        GraceTree x = new GraceTree();
        for (int c = -1; c <= 24; c++) {
            CHECK.due("drawn() ahead of any", x.drawn(c), -1);
        }
        int[][] wrong = {{-1, 1}, {1_000_001, 1}, {0, 0}, {0, 61}, {0, -1}};
        for (int[] w : wrong) {
            CHECK.due("days()", x.days(w[0], w[1]), -1);
            CHECK.due("status()", x.status(), -1);
        }
        CHECK.due("count(10)", x.count(10), wrong.length);
        CHECK.due("drawn() ahead of any still", x.drawn(0), -1);
        x.put(50, 50);
        CHECK.so("days(0, 60)", x.days(0, 60) >= 0);
        CHECK.due("status()", x.status(), 0);
        CHECK.so("days(1000000, 1)", x.days(1_000_000, 1) >= 0);
        CHECK.due("on paper", x.count(0), 1);
        CHECK.due("nothing to undo of them", x.count(8), 1);
        CHECK.due("no grace", x.count(3), 0);
        CHECK.due("drawn(0)", x.drawn(0), 1);
        CHECK.due("drawn(-1)", x.drawn(-1), -1);
        CHECK.due("drawn(24)", x.drawn(24), -1);
    }

    /** The same draws, done one by one by calls on another object. */
    private static void daysByHand() {
        int ends = 0;
        for (int seed = 0; seed < 4000; seed += 19) {
            GraceTree paper = new GraceTree();
            GraceTree hand = new GraceTree();
            Feeder.law(paper, "bars if key = 3 and time = 0");
            Feeder.law(hand, "bars if key = 3 and time = 0");
            paper.force(0);
            hand.force(0);
            stand(paper);
            stand(hand);
            int endedBefore = hand.count(3) - hand.count(4);
            Days.byHand(hand, seed, 60);
            int ended = hand.count(3) - hand.count(4) - endedBefore;
            ends += ended;
            CHECK.due("days(" + seed + ", 60)", paper.days(seed, 60), ended);
            CHECK.same("drawn()", Days.drawn(paper), Days.kinds(hand));
        }
        CHECK.so("graces ended in them", ends > 10);
    }

    private static void stand(GraceTree x) {
        x.put(2, 2);
        x.put(4, 4);
        x.drop(2);
        x.begin();
        x.hurry();
        x.drop(4);
        x.put(5, 5);
        x.enter(1);
        x.begin();
    }
}
