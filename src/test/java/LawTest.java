/** Promises 13, 15, 17, 38 and the language of LAWS. */
public final class LawTest {
    private static final Check CHECK = new Check("LawTest");

    public static void main(String[] args) {
        numbers();
        faults();
        limits();
        force();
        words();
        costs();
        broken();
        bars();
        compare();
        CHECK.report();
    }

    private static void numbers() {
        GraceTree x = new GraceTree();
        x.put(1, 1);
        for (int i = 0; i < 6; i++) {
            CHECK.due("law()", Feeder.law(x, "costs " + i), i);
            CHECK.due("fault()", x.fault(), -1);
            CHECK.due("the tape is empty then", x.count(9), 0);
        }
        CHECK.due("it leaves what can be undone", x.count(8), 1);
        Feeder.feed(x, "costs (");
        CHECK.due("a seventh", x.law(), -5);
        CHECK.due("status()", x.status(), -5);
        CHECK.due("the tape is empty then, too", x.count(9), 0);
        CHECK.due("it was not read", x.fault(), -1);
        CHECK.due("no room comes first", x.law(), -5);
        CHECK.due("count(13)", x.count(13), 2);
        CHECK.due("count(7)", x.count(7), 6);
    }

    private static void faultOf(String text, int place) {
        GraceTree x = new GraceTree();
        CHECK.due("law <" + text + ">", Feeder.law(x, text), place == -1 ? 0 : -6);
        CHECK.due("fault of <" + text + ">", x.fault(), place);
        CHECK.due("status()", x.status(), place == -1 ? 0 : -6);
        CHECK.due("count(7)", x.count(7), place == -1 ? 1 : 0);
        CHECK.due("count(9)", x.count(9), 0);
    }

    private static void faults() {
        faultOf("", 0);
        faultOf("   ", 3);
        faultOf("costs", 5);
        faultOf("costs  ", 7);
        faultOf("cost 1", 0);
        faultOf("costs1", -1);
        faultOf(" costs1ifnode=1", 7);
        faultOf("costs 1 if node=1", -1);
        faultOf("costs 1;", 8);
        faultOf("costs 1;;bars", 8);
        faultOf("costs 1 bars", 8);
        faultOf("costs 1 < 2", 8);
        faultOf("costs 1 +", 9);
        faultOf("costs + 1", 6);
        faultOf("costs 1 - - 1", 10);
        faultOf("costs (1)", 6);
        faultOf("costs [1)", 8);
        faultOf("costs [1", 8);
        faultOf("costs [1]]", 9);
        faultOf("costs []", 7);
        faultOf("costs 1000", -1);
        faultOf("costs 1001", 6);
        faultOf("costs 0001000", -1);
        faultOf("costs 99999999999999999999999", 6);
        faultOf("costs 00000000000000000000000", -1);
        faultOf("costs keys", 6);
        faultOf("costs done", 6);
        faultOf("costs at 1", 6);
        faultOf("bars", -1);
        faultOf("bars 1", 5);
        faultOf("bars if", 7);
        faultOf("bars if key", 11);
        faultOf("bars if key >", 13);
        faultOf("bars if (key > 1", 16);
        faultOf("bars if (key > 1))", 17);
        faultOf("bars if (key)", 12);
        faultOf("bars if [key > 1]", 13);
        faultOf("bars if key > 1 > 2", 16);
        faultOf("bars if key > 1 and", 19);
        faultOf("bars if not", 11);
        faultOf("bars if not not not key = [1 + 2] * 3 % 4", -1);
        faultOf("bars if notkey = 1", 8);
        faultOf("bars if key >= 1", 13);
        faultOf("bars if key = 1 if key = 2", 16);
        faultOf("bars times 2", 5);
        faultOf("Bars", 0);
        faultOf("zars", 0);
        faultOf("barsz", 0);
        faultOf("bars zif key = 1", 5);
        faultOf("bars if (", 9);
        faultOf("bars if (1 =", 12);
        faultOf("bars if (1 = 1 or", 17);
        faultOf("costs [", 7);
        faultOf("costs [1 +", 10);
        faultOf("bars\tif key = 1", 4);
        faultOf("bars if key = 1" + (char) 233, 15);
        faultOf("bars if key = 1" + (char) 0, 15);
        faultOf("put 1 as 1", 0);
    }

    private static String many(String one, String between, int n) {
        StringBuilder b = new StringBuilder();
        for (int i = 0; i < n; i++) {
            b.append(i > 0 ? between : "").append(one);
        }
        return b.toString();
    }

    private static void limits() {
        faultOf(many("bars", ";", 12), -1);
        faultOf(many("bars", ";", 13), 60);
        faultOf(many("bars", ";", 12) + ";  ?", 62);
        faultOf(many("bars", ";", 12) + ";", 60);
        faultOf("costs " + many("1", "+", 50), -1);
        faultOf("costs " + many("1", "+", 51), 106);
        faultOf("costs " + many("node", "*", 51), 256);
        faultOf("costs " + many("1", "+", 25) + ";costs " + many("1", "+", 25), -1);
        faultOf("costs " + many("1", "+", 25) + ";costs " + many("1", "+", 26), 112);
        faultOf("costs [[[[[[[[1]]]]]]]]", -1);
        faultOf("costs [[[[[[[[[1]]]]]]]]]", 14);
        faultOf("bars if ((((((((1=1))))))))", -1);
        faultOf("bars if (((((((((1=1)))))))))", 16);
        faultOf("bars if ((((([[[1]]]=1)))))", -1);
        faultOf("bars if ((((([[[[1]]]]=1)))))", 16);
        faultOf("bars if ((((((((1=1)))))))) and ((((((((1=1))))))))", -1);
        faultOf("bars if " + many("not", " ", 97) + " 1=1", -1);
        faultOf("costs " + many(" ", "", 392) + "77", -1);
        faultOf(many(" ", "", 400), 400);
    }

    private static void force() {
        GraceTree x = new GraceTree();
        CHECK.due("force(-1)", x.force(-1), -1);
        CHECK.due("status() is none", x.status(), 0);
        CHECK.due("force(0)", x.force(0), -2);
        CHECK.due("status()", x.status(), -2);
        Feeder.law(x, "costs 2");
        Feeder.law(x, "costs 3");
        x.put(1, 1);
        CHECK.due("force(1)", x.force(1), -1);
        CHECK.due("status()", x.status(), 0);
        CHECK.due("count(15)", x.count(15), 1);
        CHECK.due("force(0)", x.force(0), 1);
        CHECK.due("force(2)", x.force(2), -2);
        CHECK.due("force(-2)", x.force(-2), -2);
        CHECK.due("force(min)", x.force(Integer.MIN_VALUE), -2);
        CHECK.due("count(15)", x.count(15), 0);
        CHECK.due("force(-1)", x.force(-1), 0);
        CHECK.due("count(11)", x.count(11), 4);
        CHECK.due("it leaves what can be undone", x.count(8), 1);
        x.force(1);
        x.undo();
        CHECK.due("an undo leaves the force", x.count(15), 1);
    }

    private static GraceTree graceWith(String law) {
        GraceTree x = new GraceTree();
        Feeder.law(x, law);
        x.force(0);
        x.put(1, 1);
        x.put(2, 1);
        x.drop(1);
        x.drop(2);
        x.begin();
        return x;
    }

    private static int costOf(String law, int node, int child) {
        GraceTree x = new GraceTree();
        x.terms(0, 7);
        x.terms(2, 4);
        x.put(1, 1);
        x.put(2, 1);
        x.put(3, 1);
        x.drop(1);
        x.drop(2);
        x.drop(3);
        x.begin();
        Feeder.law(x, law);
        return x.compare(0, node, child);
    }

    private static void words() {
        int[] levels = {0, 1, 1, 2, 2, 2, 2};
        for (int node = 1; node <= 7; node++) {
            CHECK.due("node", costOf("costs node", node, 1), node);
            CHECK.due("level", costOf("costs level", node, 0), levels[node - 1]);
        }
        CHECK.due("child 0", costOf("costs child", 5, 0), 0);
        CHECK.due("child 1", costOf("costs child", 5, 1), 1);
        CHECK.due("many", costOf("costs many", 5, 1), 3);
        CHECK.due("key", costOf("costs key + 1", 5, 1), 0);
        CHECK.due("time", costOf("costs time", 5, 1), 7);
        CHECK.due("mood", costOf("costs mood", 5, 1), 4);
    }

    private static void costs() {
        String[] laws = {"costs 100", "costs 99", "costs 0", "costs 0 - 1", "bars", "costs 5; costs 6",
            "costs 5; costs 6 if 1 = 2", "costs 5 if 2 > 1; costs 6 / 0", "costs 5; costs 6 if 1 / 0 = 1",
            "costs 6 if 1 = 2", "costs 2 + 3 * 4", "costs [2 + 3] * 4", "costs 20 - 3 - 2", "costs 100 / 7 / 2",
            "costs 100 % 30 * 2", "costs 50 + [0 - 7] / 2", "costs 50 + [0 - 7] % 2", "costs 7 if not 1 = 2",
            "costs 7 if not not 1 = 2", "costs 7 if 1 = 2 and 1 = 1 or 1 = 1", "costs 7 if 1 = 1 or 1 = 1 and 1 = 2",
            "costs 7 if (1 = 1 or 1 = 1) and 1 = 2", "costs 7 if not (1 = 2 and 1 = 1)", "costs 7 if not 1 = 2 and 1 = 2",
            "costs 9 if 3 > 3", "costs 9 if 3 < 3", "costs 2;costs 1 * 1000 * 1000", "costs 7 if not 1 = 1",
            "costs 7 if 1 = 2 and 1 = 1 and 1 = 1 or 2 = 2", "costs 7 if 1 = 2 or 1 = 2 or 1 = 1",
            "costs 7 if 1 = 1 and 1 = 2 and 1 = 1", "costs 7 if 1 = 1 or 1 = 2 and 1 = 2 or 1 = 2"};
        int[] due = {99, 99, 0, 0, 1, 6,
            5, 5, 5,
            1, 14, 20, 15, 7,
            20, 47, 49, 7,
            1, 7, 7,
            1, 7, 1,
            1, 1, 99, 1,
            7, 7,
            1, 7};
        for (int i = 0; i < laws.length; i++) {
            CHECK.due(laws[i], costOf(laws[i], 4, 0), due[i]);
        }
        GraceTree x = graceWith("costs 50 if level = 0; costs 10 if level = 1; costs many + child if level = 2");
        x.tick(1);
        CHECK.due("the higher processor's report", x.count(5), 3);
        x.tick(0);
        CHECK.due("the lower one's, and the leaf's", x.count(5), 3 + 2 + 10);
        x.hurry();
        CHECK.due("all", x.count(5), 4 * (2 + 3) + 4 * 10 + 2 * 50);
        GraceTree y = graceWith("costs time + many");
        y.put(5, 5);
        y.drop(5);
        y.hurry();
        CHECK.due("time as it is then", y.count(5), 14 * 2);
        y.hurry();
        CHECK.due("a time and a grace later", y.count(5), 14 * 2 + 14 * 2);
        y.put(5, 5);
        y.drop(5);
        y.begin();
        y.hurry();
        CHECK.due("one more", y.count(5), 14 * 2 + 14 * 2 + 14 * 3);
    }

    private static void broken() {
        String[] tests = {"1000 * 1000 * 1000 = 1000 * 1000 * 1000", "1000 * 1000 * 1000 + 1 > 0",
            "0 - 1000 * 1000 * 1000 < 0", "0 - 1000 * 1000 * 1000 - 1 < 0", "1 / 0 = 0", "1 % 0 = 0",
            "1 = 1 or 1 / 0 = 1", "1 = 2 or 1 / 0 = 1", "not (1 = 2 and 1 / 0 = 1)", "1 = 1 and 1 / 0 = 1",
            "1 / 0 = 1 or 1 = 1", "not 1 / 0 = 1", "not (1 / 0 = 1 and 1 = 2)", "1 = 1 or 1 / 0 = 1 or 1 = 2",
            "1 = 2 and 1 / 0 = 1 or 1 = 1", "(1 = 1 or 1 / 0 = 1) and 2 = 2", "1000 * 1000 * 1000 * 2 / 2 > 0",
            "0 / 5 = 0", "0 % 5 = 0"};
        boolean[] so = {true, false,
            true, false, false, false,
            true, false, true, false,
            false, false, false, true,
            true, true, false,
            true, true};
        for (int i = 0; i < tests.length; i++) {
            CHECK.due(tests[i], costOf("costs 7 if " + tests[i], 1, 0), so[i] ? 7 : 1);
        }
    }

    private static void bars() {
        GraceTree x = new GraceTree();
        Feeder.law(x, "bars if key = 7; bars if key > 20 and time = 0; bars if mood = 9; bars if key = 1 / 0");
        CHECK.due("not in force", x.put(7, 1), 0);
        x.force(0);
        CHECK.due("barred, in the list too", x.put(7, 2), -3);
        CHECK.due("status()", x.status(), -3);
        CHECK.due("not barred", x.put(20, 1), 1);
        CHECK.due("by time", x.put(21, 1), -3);
        x.terms(0, 1);
        CHECK.due("by time later", x.put(21, 1), 2);
        x.terms(2, 9);
        CHECK.due("by mood", x.put(3, 1), -3);
        x.force(-1);
        CHECK.due("with no law", x.put(3, 1), 3);
        GraceTree y = new GraceTree();
        Feeder.law(y, "bars if node = 0 - 1 and level = 0 - 1 and child = 0 - 1 and many = 0 - 1 and key < 5");
        y.force(0);
        CHECK.due("words that are -1 of a key", y.put(4, 1), -3);
        CHECK.due("put(5, 1)", y.put(5, 1), 0);
        Feeder.law(y, "bars");
        y.force(1);
        CHECK.due("bars alone", y.put(50, 1), -3);
        CHECK.due("a number that can't be comes first", y.put(100, 1), -1);
        CHECK.due("drops are not barred", y.drop(5), 0);
    }

    private static void compare() {
        GraceTree x = graceWith("costs 10 * node + child");
        Feeder.law(x, "costs many");
        CHECK.due("compare(-1, 7, 1)", x.compare(-1, 7, 1), 1);
        CHECK.due("compare(0, 7, 1)", x.compare(0, 7, 1), 71);
        CHECK.due("compare(1, 7, 1)", x.compare(1, 7, 1), 2);
        CHECK.due("compare(2, 7, 1)", x.compare(2, 7, 1), -1);
        CHECK.due("compare(-2, 7, 1)", x.compare(-2, 7, 1), -1);
        CHECK.due("compare(0, 0, 1)", x.compare(0, 0, 1), -1);
        CHECK.due("compare(0, 8, 1)", x.compare(0, 8, 1), -1);
        CHECK.due("compare(0, 7, 2)", x.compare(0, 7, 2), -1);
        CHECK.due("compare(0, 7, -1)", x.compare(0, 7, -1), -1);
        CHECK.due("no refusal", x.count(10) + x.count(11), 0);
        CHECK.due("nothing is paid", x.count(5), 0);
        CHECK.due("the force stays", x.count(15), 0);
        x.hurry();
        CHECK.due("with no grace", x.compare(1, 7, 1), 0);
    }
}
