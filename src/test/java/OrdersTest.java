/** Promises 14, 15, 16 and the language of ORDERS. */
public final class OrdersTest {
    private static final Check CHECK = new Check("OrdersTest");

    public static void main(String[] args) {
        faults();
        limits();
        acts();
        words();
        times();
        wholly();
        undone();
        CHECK.report();
    }

    private static void faultOf(String text, int place) {
        GraceTree x = new GraceTree();
        int answer = Feeder.orders(x, text);
        CHECK.due("fault of <" + text + ">", x.fault(), place);
        CHECK.so("answer of <" + text + ">: " + answer, place == -1 ? answer != -6 : answer == -6);
        CHECK.due("the tape is empty then", x.count(9), 0);
        CHECK.due("count(14)", x.count(14), place == -1 ? 0 : 1);
        if (place != -1) {
            CHECK.due("status()", x.status(), -6);
            CHECK.due("stopped()", x.stopped(), -1);
        }
    }

    private static void faults() {
        faultOf("", 0);
        faultOf("  ", 2);
        faultOf("put 1 as 2", -1);
        faultOf("put1as2", -1);
        faultOf("put 1", 5);
        faultOf("put 1 2", 6);
        faultOf("put 1 as", 8);
        faultOf("put as 1", 4);
        faultOf("drop 1 as 2", 7);
        faultOf("drop", 4);
        faultOf("begin 1", 6);
        faultOf("begin begin", 6);
        faultOf("hurry", 0);
        faultOf("bars", 0);
        faultOf("begin times 1", -1);
        faultOf("begin times 20", -1);
        faultOf("begin times 0", 12);
        faultOf("begin times 21", 12);
        faultOf("begin times time", 12);
        faultOf("begin times", 11);
        faultOf("begin times 1 times 1", 14);
        faultOf("begin times 1 if time = 0", -1);
        faultOf("begin if time = 0 times 1", 18);
        faultOf("begin if 1 = 2 if 1 = 2", 15);
        faultOf("tick mood", 5);
        faultOf("tick node", 5);
        faultOf("tick at 7", -1);
        faultOf("tick at 8", 8);
        faultOf("tick at", 7);
        faultOf("tick at time", 8);
        faultOf("tick at [1]", 8);
        faultOf("tick value 99", -1);
        faultOf("tick value 100", 11);
        faultOf("tick value key", 11);
        faultOf("tick done + latest * waits - graces % time", -1);
        faultOf("tick 1001", 5);
        faultOf("tick (1)", 5);
        faultOf("tick 1;", 7);
        faultOf("tick 1;tick", 11);
    }

    private static String many(String one, String between, int n) {
        StringBuilder b = new StringBuilder();
        for (int i = 0; i < n; i++) {
            b.append(i > 0 ? between : "").append(one);
        }
        return b.toString();
    }

    private static void limits() {
        faultOf(many("tick 1", ";", 12), -1);
        faultOf(many("tick 1", ";", 13), 84);
        faultOf("tick " + many("1", "*", 50), -1);
        faultOf("tick " + many("1", "*", 51), 105);
        faultOf("tick " + many("at 1", "*", 50), -1);
        faultOf("tick " + many("at 1", "*", 51), 255);
        faultOf("tick " + many("1", "*", 49) + "*at 1 times 3", -1);
        faultOf("tick " + many("1", "*", 50) + " times 3 if 1 = 1", 116);
        faultOf("tick [[[[[[[[1]]]]]]]]", -1);
        faultOf("tick [[[[[[[[[1]]]]]]]]]", 13);
    }

    private static void acts() {
        GraceTree x = new GraceTree();
        CHECK.due("orders()", Feeder.orders(x, "put 5 as 50; put 6 as 60; enter 2; step 2; park 2; drop 5; begin; tick 3"), 8);
        CHECK.due("status()", x.status(), 0);
        CHECK.due("fault()", x.fault(), -1);
        CHECK.due("stopped()", x.stopped(), -1);
        CHECK.due("find(6)", x.find(6), 60);
        CHECK.due("of(2, 1)", x.of(2, 1), 1);
        CHECK.due("of(2, 3)", x.of(2, 3), 1);
        CHECK.due("node(5)", x.node(5), 1);
        CHECK.due("orders()", Feeder.orders(x, "tick 2; leave 2"), 2);
        CHECK.due("node(2)", x.node(2), 1);
        CHECK.due("none run", Feeder.orders(x, "begin if 1 = 2; put 1000 as 1000 if 1 / 0 = 1"), 0);
    }

    private static void words() {
        GraceTree x = new GraceTree();
        x.terms(0, 5);
        CHECK.due("time", Feeder.orders(x, "put 1 as time"), 1);
        CHECK.due("find(1)", x.find(1), 5);
        CHECK.due("done", Feeder.orders(x, "put 2 as done + 10; put 3 as done + 10; put 4 as done + 10"), 3);
        CHECK.due("find(2)", x.find(2), 10);
        CHECK.due("find(4)", x.find(4), 12);
        CHECK.due("latest", Feeder.orders(x, "put 5 as latest + 1; put 6 as latest"), 2);
        CHECK.due("find(5): none yet", x.find(5), 0);
        CHECK.due("find(6): the cell", x.find(6), 4);
        CHECK.due("waits", Feeder.orders(x, "drop 6; put 7 as waits; begin; put 8 as waits; put 9 as graces"), 5);
        CHECK.due("find(7)", x.find(7), 1);
        CHECK.due("find(8)", x.find(8), 0);
        CHECK.due("find(9)", x.find(9), 1);
        CHECK.due("at", Feeder.orders(x, "put 10 as at 0 + 1; enter 0; step 0; put 11 as at 0"), 4);
        CHECK.due("find(10): out", x.find(10), 0);
        CHECK.due("find(11)", x.find(11), 1);
        CHECK.due("at the end", Feeder.orders(x, "step 0 times 20 if at 0 > 0 - 1; put 12 as at 0 + 1"), 10);
        CHECK.due("of(0, 1)", x.of(0, 1), -1);
        CHECK.due("find(12)", x.find(12), 0);
        CHECK.due("value", Feeder.orders(x, "put 13 as value 4 + value 99 + 1"), 1);
        CHECK.due("find(13)", x.find(13), 12);
        CHECK.due("what tick told", Feeder.orders(x, "leave 0; tick done - 1 times 8; put 14 as latest"), 10);
        CHECK.due("find(14)", x.find(14), 1);
        CHECK.due("the lowest key", Feeder.orders(x, "put 15 as value 0 + 1; put 0 as 77; put 16 as value 0"), 3);
        CHECK.due("find(15)", x.find(15), 0);
        CHECK.due("find(16)", x.find(16), 77);
    }

    private static void times() {
        GraceTree x = new GraceTree();
        CHECK.due("orders()", Feeder.orders(x, "put done as done times 20"), 20);
        CHECK.due("find(19)", x.find(19), 19);
        CHECK.due("each time its if is asked", Feeder.orders(x, "drop 2 * done times 20 if done < 4"), 4);
        CHECK.due("count(0)", x.count(0), 16);
        CHECK.due("find(6)", x.find(6), -1);
        CHECK.due("find(8)", x.find(8), 8);
    }

    private static void stops(GraceTree x, String text, int clause) {
        CHECK.due("orders <" + text + ">", Feeder.orders(x, text), -3);
        CHECK.due("stopped by <" + text + ">", x.stopped(), clause);
        CHECK.due("status()", x.status(), -3);
        CHECK.due("fault()", x.fault(), -1);
        CHECK.due("count(0) behind <" + text + ">", x.count(0), 1);
        CHECK.due("of(4, 0) behind <" + text + ">", x.of(4, 0), 1);
        CHECK.due("of(4, 2) behind <" + text + ">", x.of(4, 2), 0);
        CHECK.due("count(8) behind <" + text + ">", x.count(8), 2);
        CHECK.due("count(1) behind <" + text + ">", x.count(1), 0);
        CHECK.due("count(4) behind <" + text + ">", x.count(4), 0);
        CHECK.due("count(16) behind <" + text + ">", x.count(16), 0);
    }

    private static void wholly() {
        GraceTree x = new GraceTree();
        x.put(5, 50);
        x.enter(4);
        stops(x, "put 100 as 1", 0);
        stops(x, "put 1 as 1000", 0);
        stops(x, "put 1 as 1; put 0 - 1 as 1", 1);
        stops(x, "put 1 as 1 / 0", 0);
        stops(x, "put 1 / 0 as 1", 0);
        stops(x, "put done as 1 times 20; put done + 10 as 1 times 20", 1);
        stops(x, "drop 5; drop 5", 1);
        stops(x, "drop 1000 * 1000 * 1000 * 1000", 0);
        stops(x, "park 4; park 4", 1);
        stops(x, "park 4; step 4", 1);
        stops(x, "leave 4; leave 4", 1);
        stops(x, "leave 4; enter 8", 1);
        stops(x, "enter 4", 0);
        stops(x, "tick 4", 0);
        stops(x, "tick 0 - 1", 0);
        stops(x, "begin", 0);
        stops(x, "park 4; drop 5; begin; tick done - 3 times 8; leave 4; put 4 as 4; begin", 6);
        stops(x, "step 4; step 4", 1);
        CHECK.due("refusals of acts in them are no calls", x.count(10), 0);
        CHECK.due("count(12)", x.count(12), 18);
        Feeder.law(x, "bars if key = 9");
        x.force(0);
        stops(x, "put 8 as 8; put 9 as 9", 1);
        CHECK.due("a good one", Feeder.orders(x, "put 8 as 8"), 1);
        CHECK.due("stopped()", x.stopped(), -1);
        CHECK.due("one that can't be", Feeder.orders(x, "begin"), -3);
        CHECK.due("a text that can't be", Feeder.orders(x, "begi"), -6);
        CHECK.due("stopped() by the latest", x.stopped(), -1);
        CHECK.due("a good text again", Feeder.orders(x, "tick 1"), 1);
        CHECK.due("fault() of the latest", x.fault(), -1);
    }

    private static void undone() {
        GraceTree x = new GraceTree();
        for (int i = 0; i < 16; i++) {
            x.put(i, i);
        }
        CHECK.due("a long one that stops", Feeder.orders(x, "tick 0 times 20; tick 0 times 20; drop 50"), -3);
        CHECK.due("count(8)", x.count(8), 16);
        for (int i = 15; i >= 0; i--) {
            CHECK.due("undo()", x.undo(), 0);
            CHECK.due("count(0)", x.count(0), i);
        }
        CHECK.due("no more", x.undo(), -3);
        Feeder.orders(x, "put 1 as 1; tick 0 times 3");
        CHECK.due("count(8)", x.count(8), 4);
        CHECK.due("undo()", x.undo(), 6);
        x.undo();
        x.undo();
        CHECK.due("undo()", x.undo(), 0);
        CHECK.due("count(0)", x.count(0), 0);
        Feeder.orders(x, "put 1 as 1; tick 0 times 20");
        CHECK.due("sixteen are kept", x.count(8), 16);
    }
}
