/** Boundary cases of promises 14, 16 and of the language of ORDERS, one by one. */
public final class BoundsOrdersTest {
    public static void main(String[] args) {
        Cases.run(BoundsOrdersTest.class);
    }

    /** A TEXT that is read, whatever comes of running it. */
    private static void stands(Check c, String text) {
        GraceTree x = new GraceTree();
        c.so("orders <" + text + "> is read", Feeder.orders(x, text) != -6);
        c.due("fault() of <" + text + ">", x.fault(), -1);
    }

    private static void faultAt(Check c, String text, int place) {
        GraceTree x = new GraceTree();
        c.due("orders <" + text + ">", Feeder.orders(x, text), -6);
        c.due("fault() of <" + text + ">", x.fault(), place);
        c.due("stopped() behind <" + text + ">", x.stopped(), -1);
    }

    /** READER 4 is IN at CELL 0 (KEY 5, VALUE 50), READER 5 PARKED at the END. */
    private static GraceTree stand() {
        GraceTree x = new GraceTree();
        x.enter(5);
        x.park(5);
        x.put(5, 50);
        x.enter(4);
        return x;
    }

    private static void stops(Check c, String text, int clause) {
        Refusal.due(c, "orders <" + text + ">", BoundsOrdersTest::stand, x -> Feeder.orders(x, text), -3);
        GraceTree x = stand();
        Feeder.orders(x, text);
        c.due("stopped() by <" + text + ">", x.stopped(), clause);
        c.due("fault() of <" + text + ">", x.fault(), -1);
        c.due("count(9) behind <" + text + ">", x.count(9), 0);
    }

    private static void tells(Check c, GraceTree x, String sum, int due) {
        c.due("put 90 as " + sum, Feeder.orders(x, "put 90 as " + sum), 1);
        c.due(sum, x.find(90), due);
    }

    // ---- 14: the call

    /** "-6 (as for law())": "blanks alone: FAULT at the end". */
    static void promise14BlanksAlone(Check c) {
        faultAt(c, " ", 1);
        faultAt(c, "   ", 3);
        faultAt(c, Stands.many(" ", "", 400), 400);
    }

    static void promise14AnEmptyTape(Check c) {
        faultAt(c, "", 0);
        Refusal.due(c, "orders() of nothing", () -> Stands.keys(4), GraceTree::orders, -6);
    }

    static void promise14ATextThatCannotBeChangesNothing(Check c) {
        Refusal.due(c, "orders()", () -> Stands.keys(4), x -> Feeder.orders(x, "put 1 as 1; drop"), -6);
    }

    static void promise14TheTapeIsEmptyThen(Check c) {
        for (String text : new String[] {"tick 0", "begin", "begi"}) {
            GraceTree x = new GraceTree();
            Feeder.orders(x, text);
            c.due("count(9) behind <" + text + ">", x.count(9), 0);
        }
    }

    static void promise14NoneIsRun(Check c) {
        GraceTree x = new GraceTree();
        c.due("orders()", Feeder.orders(x, "put 1 as 1 if 1=2"), 0);
        c.due("status()", x.status(), 0);
        c.due("count(8)", x.count(8), 0);
    }

    static void promise14HowManyWereRun(Check c) {
        GraceTree x = new GraceTree();
        c.due("one", Feeder.orders(x, "tick 0"), 1);
        c.due("the most there can be", Feeder.orders(x, Stands.many("tick 0 times 20", ";", 12)), 240);
    }

    /** It needs no room: six LAWS stand, or all CELLS are LIVE. */
    static void promise14WithNoRoomForLaws(Check c) {
        GraceTree x = Stands.sixLaws();
        c.due("orders()", Feeder.orders(x, "tick 0"), 1);
        c.due("a fault", Feeder.orders(x, "tick"), -6);
    }

    // ---- 14: the language

    static void promise14TwelveClauses(Check c) {
        GraceTree x = new GraceTree();
        c.due("orders()", Feeder.orders(x, Stands.many("tick 1", ";", 12)), 12);
    }

    static void promise14AThirteenthClause(Check c) {
        faultAt(c, Stands.many("tick 1", ";", 13), 84);
        faultAt(c, Stands.many("tick 1", ";", 12) + ";  ", 86);
        faultAt(c, Stands.many("tick 1", ";", 12) + "; x", 85);
    }

    static void promise14AClauseMustStandBehindEachSemicolon(Check c) {
        faultAt(c, "begin;", 6);
        faultAt(c, ";begin", 0);
        faultAt(c, "begin;;begin", 6);
    }

    static void promise14EachClauseTakesWhatItTakes(Check c) {
        faultAt(c, "put", 3);
        faultAt(c, "put 1", 5);
        faultAt(c, "put 1 2", 6);
        faultAt(c, "put 1 as", 8);
        faultAt(c, "put as 1", 4);
        faultAt(c, "begin 1", 6);
        for (String word : new String[] {"drop", "enter", "step", "park", "leave", "tick"}) {
            faultAt(c, word, word.length());
            faultAt(c, word + " 1 as 2", word.length() + 3);
            faultAt(c, word + " 1 2", word.length() + 3);
            stands(c, word + " 1");
            faultAt(c, word + "s 1", 0);
        }
    }

    /** Nothing of a TEXT is left to the next one: no PARTS, no SUMS, no CLAUSES. */
    static void promise14ATextBehindALongerOne(Check c) {
        GraceTree x = Stands.keys(4);
        for (int i = 0; i < 40; i++) {
            c.due("orders()", Feeder.orders(x, "tick " + Stands.many("1", "*", 40) + ";tick 2"), 2);
        }
        c.due("a put", Feeder.orders(x, "put 5 as 50 times 2 if 1=1"), 2);
        c.due("a drop behind a put", Feeder.orders(x, "drop 5"), 1);
        c.due("a begin behind a drop", Feeder.orders(x, "begin"), 1);
    }

    static void promise14EachWordHasItsPlaces(Check c) {
        faultAt(c, "begin if as 1=1", 9);
        faultAt(c, "put 1 not 2", 6);
        faultAt(c, "put 1 times 2", 6);
        faultAt(c, "tick 1 as 2", 7);
        faultAt(c, "begin and 1=1", 6);
        faultAt(c, "tick put", 5);
        faultAt(c, "tick if 1=1", 5);
        faultAt(c, "tick times 2", 5);
    }

    static void promise14WordsMustMatchWholly(Check c) {
        for (String word : new String[] {"put", "drop", "enter", "step", "park", "leave", "tick", "begin"}) {
            faultAt(c, "z" + word.substring(1) + " 1", 0);
            faultAt(c, word.substring(0, word.length() - 1) + "z 1", 0);
            faultAt(c, word.substring(0, word.length() - 1), 0);
        }
    }

    static void promise14WordsOfLawsAreNone(Check c) {
        faultAt(c, "bars", 0);
        faultAt(c, "costs 1", 0);
        faultAt(c, "hurry", 0);
        faultAt(c, "undo", 0);
        for (String word : new String[] {"node", "level", "child", "many", "key", "mood"}) {
            faultAt(c, "tick " + word, 5);
        }
    }

    static void promise14AllWordsOfOrders(Check c) {
        for (String word : new String[] {"time", "done", "latest", "waits", "graces"}) {
            stands(c, "tick " + word);
            faultAt(c, "tick " + word + "x", 5);
            faultAt(c, "tick " + word + " 1", 6 + word.length());
        }
    }

    /** "TIMES: a NUMBER 1 .. 20." */
    static void promise14TimesFrom1To20(Check c) {
        GraceTree x = new GraceTree();
        c.due("times 1", Feeder.orders(x, "tick 0 times 1"), 1);
        c.due("times 20", Feeder.orders(x, "tick 0 times 20"), 20);
        c.due("times 0020", Feeder.orders(x, "tick 0 times 0020"), 20);
    }

    static void promise14Times0(Check c) {
        faultAt(c, "tick 0 times 0", 13);
    }

    static void promise14Times21(Check c) {
        faultAt(c, "tick 0 times 21", 13);
        faultAt(c, "tick 0 times 1001", 13);
        faultAt(c, "tick 0 times 4294967297", 13);
    }

    static void promise14TimesThatAreNoNumber(Check c) {
        faultAt(c, "tick 0 times", 12);
        faultAt(c, "tick 0 times done", 13);
        faultAt(c, "tick 0 times [1]", 13);
        faultAt(c, "tick 0 times 1+1", 14);
        faultAt(c, "tick 0 times 2 times 2", 15);
        faultAt(c, "tick 0 if 1=1 times 2", 14);
    }

    /** "each as often as TIMES tell (once without)". */
    static void promise14OnceWithoutTimes(Check c) {
        GraceTree x = new GraceTree();
        c.due("orders()", Feeder.orders(x, "tick 0; tick 1"), 2);
    }

    /** "P: a NUMBER 0 .. 7". */
    static void promise14ProcessorsOfAtFrom0To7(Check c) {
        GraceTree x = Stands.keys(3);
        x.put(1, 1);
        x.enter(0);
        x.enter(7);
        x.step(7);
        tells(c, x, "at 0", 1);
        tells(c, x, "at 7", 0);
        tells(c, x, "at 007", 0);
    }

    static void promise14ProcessorsOfAtThatCannotBe(Check c) {
        faultAt(c, "tick at 8", 8);
        faultAt(c, "tick at 1001", 8);
        faultAt(c, "tick at", 7);
        faultAt(c, "tick at time", 8);
        faultAt(c, "tick at [1]", 8);
        faultAt(c, "tick at -1", 8);
    }

    /** "K: 0 .. 99". */
    static void promise14KeysOfValueFrom0To99(Check c) {
        GraceTree x = new GraceTree();
        x.put(0, 7);
        x.put(99, 8);
        tells(c, x, "value 0", 7);
        tells(c, x, "value 99", 8);
    }

    static void promise14KeysOfValueThatCannotBe(Check c) {
        faultAt(c, "tick value 100", 11);
        faultAt(c, "tick value", 10);
        faultAt(c, "tick value done", 11);
        faultAt(c, "tick value [1]", 11);
        faultAt(c, "tick value -1", 11);
    }

    /** "NUMBER (to 1,000)". */
    static void promise14NumbersTo1000(Check c) {
        stands(c, "tick 1000");
        faultAt(c, "tick 1001", 5);
    }

    /** "P, K, TIMES aside, NUMBERS and words count as PARTS": 50 at most. */
    static void promise14FiftyParts(Check c) {
        stands(c, "tick " + Stands.many("1", "*", 50));
        stands(c, "tick " + Stands.many("at 1", "*", 50));
        stands(c, "tick " + Stands.many("1", "*", 49) + "*value 1 times 20");
    }

    static void promise14AFiftyFirstPart(Check c) {
        faultAt(c, "tick " + Stands.many("1", "*", 51), 105);
        faultAt(c, "tick " + Stands.many("at 1", "*", 51), 255);
        faultAt(c, "tick " + Stands.many("1", "*", 50) + " times 3 if 1=1", 116);
        faultAt(c, "put " + Stands.many("1", "*", 25) + " as " + Stands.many("1", "*", 26), 107);
    }

    static void promise14EightBrackets(Check c) {
        stands(c, "tick [[[[[[[[1]]]]]]]] if ((((((([1]=1)))))))");
    }

    static void promise14ANinthBracket(Check c) {
        faultAt(c, "tick [[[[[[[[[1]]]]]]]]]", 13);
        faultAt(c, "begin if ((((((((([1]=1))))))))", 17);
        faultAt(c, "begin if (((((((([1]=1))))))))", 17);
    }

    // ---- 14: the words at their ends

    /** "latest: what the latest of them told (-1: none)". */
    static void promise14LatestOfNone(Check c) {
        GraceTree x = Stands.keys(3);
        tells(c, x, "latest + 1", 0);
        c.due("none is run ahead of it", Feeder.orders(x, "drop 3 if 1=2; put 91 as latest + 1"), 1);
        c.due("find(91)", x.find(91), 0);
        c.due("not that of the text ahead of it", Feeder.orders(x, "put 92 as latest + 1"), 1);
        c.due("find(92)", x.find(92), 0);
    }

    static void promise14LatestIsWhatItTold(Check c) {
        GraceTree x = new GraceTree();
        c.due("enter tells 1 more than its cell", Feeder.orders(x, "put 1 as 1; enter 0; put 2 as latest"), 3);
        c.due("find(2)", x.find(2), 1);
        c.due("not one whose if is not so", Feeder.orders(x, "drop 1; enter 1 if 1=2; put 3 as latest"), 2);
        c.due("find(3)", x.find(3), 0);
    }

    /** "done: how many were run in this TEXT". */
    static void promise14DoneFrom0On(Check c) {
        GraceTree x = new GraceTree();
        tells(c, x, "done", 0);
        tells(c, x, "done", 0);
        c.due("orders()", Feeder.orders(x, "tick 0 times 20; tick 0 if 1=2; put 91 as done"), 21);
        c.due("find(91)", x.find(91), 20);
    }

    static void promise14WaitsAndGracesAtFirst(Check c) {
        GraceTree x = new GraceTree();
        tells(c, x, "waits", 0);
        tells(c, x, "graces", 0);
        GraceTree y = Stands.waiting();
        tells(c, y, "waits", 1);
        y.begin();
        tells(c, y, "graces + 10 * waits", 1);
    }

    /** "at: the CELL of a READER (-1: OUT, or at the END)". */
    static void promise14AtOfOneThatIsOut(Check c) {
        GraceTree x = Stands.keys(3);
        tells(c, x, "at 0 + 1", 0);
        x.enter(0);
        x.leave(0);
        tells(c, x, "at 0 + 1", 0);
    }

    static void promise14AtOfOneAtTheEnd(Check c) {
        GraceTree x = new GraceTree();
        x.enter(0);
        tells(c, x, "at 0 + 1", 0);
    }

    /** "value: that of a KEY in the LIST (-1: it is not there)". */
    static void promise14ValueOfAKeyThatIsNotThere(Check c) {
        GraceTree x = Stands.waiting();
        tells(c, x, "value 1 + 1", 0);
        tells(c, x, "value 0 + 1", 0);
        tells(c, x, "value 99 + 1", 0);
    }

    static void promise14ValuesOfAFullList(Check c) {
        GraceTree x = Stands.full();
        c.due("orders()", Feeder.orders(x, "tick 0 if value 0=0; tick 0 if value 23=23; tick 0 if value 24=0-1"), 3);
    }

    static void promise14TimeAtItsEnds(Check c) {
        GraceTree x = new GraceTree();
        tells(c, x, "time", 0);
        x.terms(0, 999);
        tells(c, x, "time", 999);
    }

    /** "as it is then": each time anew. */
    static void promise14WordsAreAskedEachTime(Check c) {
        GraceTree x = new GraceTree();
        c.due("orders()", Feeder.orders(x, "put done as value 1 + 1 times 3"), 3);
        c.due("find(0)", x.find(0), 0);
        c.due("find(1)", x.find(1), 0);
        c.due("find(2)", x.find(2), 1);
    }

    /** "each time its "if" is asked (not run, if it is not so or BROKEN)". */
    static void promise14ABrokenIfIsNotRun(Check c) {
        GraceTree x = new GraceTree();
        c.due("orders()", Feeder.orders(x, "put 1 as 1 if 1/0=1; put 2 as 2"), 1);
        c.due("find(1)", x.find(1), -1);
        c.due("status()", x.status(), 0);
    }

    static void promise14AnIfThatIsNotSoShieldsItsSums(Check c) {
        GraceTree x = new GraceTree();
        c.due("orders()", Feeder.orders(x, "put 1/0 as 1 if 1=2; drop 50 if 1=2; begin if 1=2"), 0);
        c.due("stopped()", x.stopped(), -1);
    }

    static void promise14TheIfIsAskedEachTime(Check c) {
        GraceTree x = new GraceTree();
        c.due("orders()", Feeder.orders(x, "put done as 1 times 20 if done < 5"), 5);
        c.due("so again later", Feeder.orders(x, "tick 0; tick 0 times 20 if done % 2 = 1"), 2);
    }

    // ---- 14, 16: "One that can't be ends it: all is as it was ahead of it"

    static void promise14ABrokenSumEndsIt(Check c) {
        stops(c, "put 1/0 as 1", 0);
        stops(c, "put 1 as 1%0", 0);
        stops(c, "put 1 as 1; drop 5/[1-1]", 1);
        stops(c, "tick 1000*1000*1000+1", 0);
        stops(c, "tick 0-1000*1000*1000-1", 0);
    }

    static void promise14NumbersThatCannotBeEndIt(Check c) {
        stops(c, "put 100 as 1", 0);
        stops(c, "put 0-1 as 1", 0);
        stops(c, "put 1 as 1000", 0);
        stops(c, "put 1 as 0-1", 0);
        stops(c, "drop 100", 0);
        stops(c, "drop 0-1", 0);
        stops(c, "put 1 as 1; drop 5; enter 8", 2);
        for (String word : new String[] {"enter", "step", "park", "leave", "tick"}) {
            stops(c, "leave 4; " + word + " 8", 1);
            stops(c, "leave 4; " + word + " 0-1", 1);
            stops(c, word + " 1000*1000*1000", 0);
        }
    }

    static void promise14WhatCannotBeByWhatStandsEndsIt(Check c) {
        stops(c, "drop 5; drop 5", 1);
        stops(c, "enter 4", 0);
        stops(c, "step 4; step 4", 1);
        stops(c, "step 5", 0);
        stops(c, "park 4; park 4", 1);
        stops(c, "leave 4; leave 4", 1);
        stops(c, "tick 4", 0);
        stops(c, "begin", 0);
        stops(c, "drop 5; begin; begin", 2);
    }

    static void promise14ABarredKeyEndsIt(Check c) {
        GraceTree x = Stands.law("bars if key=9");
        c.due("orders()", Feeder.orders(x, "put 8 as 8; put 9 as 9"), -3);
        c.due("stopped()", x.stopped(), 1);
        c.due("count(0)", x.count(0), 0);
    }

    /** A put() without room is told as -3 too: "-3 one can't be". */
    static void promise14NoRoomEndsIt(Check c) {
        stops(c, "put done as 1 times 20; put done + 10 as 1 times 20", 1);
        Refusal.due(c, "orders()", Stands::full, x -> Feeder.orders(x, "put 50 as 1"), -3);
    }

    static void promise14AGraceThatEndedIsAsItWas(Check c) {
        stops(c, "drop 5; begin; leave 5; park 4; tick done-4 times 8; leave 4; tick 0; drop 5", 7);
        GraceTree x = Stands.graceButSeven();
        String before = Refusal.tell(x);
        c.due("orders()", Feeder.orders(x, "tick 7; put 1 as 1; begin"), -3);
        c.same("what stands", Refusal.tell(x), before);
    }

    /** "16 are kept": also if more were run ahead of the one that can't be. */
    static void promise14WhatCanBeUndoneIsAsItWas(Check c) {
        GraceTree x = Stands.keys(1, 2, 3);
        c.due("orders()", Feeder.orders(x, "tick 0 times 20; drop 50"), -3);
        c.due("count(8)", x.count(8), 3);
        for (int i = 2; i >= 0; i--) {
            c.due("undo()", x.undo(), 0);
            c.due("count(0)", x.count(0), i);
        }
        c.due("undo()", x.undo(), -3);
    }

    /** Acts within ORDERS are no calls: they are not counted as refused. */
    static void promise14OneRefusalIsCounted(Check c) {
        GraceTree x = new GraceTree();
        Feeder.orders(x, "put 100 as 1");
        c.due("count(10)", x.count(10), 0);
        c.due("count(12)", x.count(12), 1);
    }

    // ---- 16: stopped

    static void promise16AheadOfAny(Check c) {
        c.due("stopped()", new GraceTree().stopped(), -1);
    }

    static void promise16FirstAndLastClause(Check c) {
        GraceTree x = new GraceTree();
        Feeder.orders(x, "begin; tick 0");
        c.due("the first", x.stopped(), 0);
        Feeder.orders(x, Stands.many("tick 0", ";", 11) + ";begin");
        c.due("the twelfth", x.stopped(), 11);
    }

    static void promise16NoneBehindGoodOrders(Check c) {
        GraceTree x = new GraceTree();
        Feeder.orders(x, "begin");
        Feeder.orders(x, "tick 0");
        c.due("stopped()", x.stopped(), -1);
    }

    static void promise16NoneBehindATextThatCannotBe(Check c) {
        GraceTree x = new GraceTree();
        Feeder.orders(x, "begin");
        Feeder.orders(x, "begi");
        c.due("stopped()", x.stopped(), -1);
        Feeder.orders(x, "begin");
        x.orders();
        c.due("behind one of an empty tape", x.stopped(), -1);
    }

    static void promise16NotTheFirstOfItsTimes(Check c) {
        GraceTree x = Stands.keys(3);
        c.due("orders()", Feeder.orders(x, "tick 0; drop 3 times 2"), -3);
        c.due("stopped()", x.stopped(), 1);
        c.due("find(3)", x.find(3), 30);
    }

    static void promise16LawAndBackLeaveIt(Check c) {
        GraceTree x = new GraceTree();
        x.image(0);
        Feeder.orders(x, "tick 0; begin");
        Feeder.law(x, "bars");
        c.due("behind law()", x.stopped(), 1);
        x.back(0);
        c.due("behind back()", x.stopped(), 1);
    }
}
