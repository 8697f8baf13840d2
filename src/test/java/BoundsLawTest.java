/** Boundary cases of promises 13, 15, 17, 38 and of the language of LAWS, one by one. */
public final class BoundsLawTest {
    private static final int MIN = Integer.MIN_VALUE;
    private static final int MAX = Integer.MAX_VALUE;

    public static void main(String[] args) {
        Cases.run(BoundsLawTest.class);
    }

    private static void stands(Check c, String text) {
        GraceTree x = new GraceTree();
        c.due("law <" + text + ">", Feeder.law(x, text), 0);
        c.due("fault() of <" + text + ">", x.fault(), -1);
    }

    private static void faultAt(Check c, String text, int place) {
        GraceTree x = new GraceTree();
        c.due("law <" + text + ">", Feeder.law(x, text), -6);
        c.due("fault() of <" + text + ">", x.fault(), place);
        c.due("count(7) behind <" + text + ">", x.count(7), 0);
    }

    /** What a REPORT of the higher CHILD of NODE 6 COSTS while a GRACE RUNS for two CELLS. */
    private static void costs(Check c, String law, int due) {
        GraceTree x = Stands.keys(1, 2);
        x.drop(1);
        x.drop(2);
        x.begin();
        c.due("law <" + law + ">", Feeder.law(x, law), 0);
        c.due("<" + law + ">", x.compare(0, 6, 1), due);
    }

    private static void isSo(Check c, String test) {
        costs(c, "costs 7 if " + test, 7);
    }

    private static void isNotSo(Check c, String test) {
        costs(c, "costs 7 if " + test, 1);
    }

    // ---- 13: law, its number and its refusals

    /** "LAWS, 6 at most". */
    static void promise13SixLaws(Check c) {
        GraceTree x = new GraceTree();
        for (int i = 0; i < 6; i++) {
            c.due("law()", Feeder.law(x, "bars"), i);
        }
        c.due("status()", x.status(), 0);
        c.due("count(7)", x.count(7), 6);
    }

    static void promise13ASeventhLaw(Check c) {
        Refusal.due(c, "law()", Stands::sixLaws, x -> Feeder.law(x, "bars"), -5);
    }

    /** "-5 (ahead of reading it; the TAPE is empty then, too)". */
    static void promise13NoRoomAheadOfReading(Check c) {
        Refusal.due(c, "a text that can't be", Stands::sixLaws, x -> Feeder.law(x, "bars ("), -5);
        Refusal.due(c, "no text", Stands::sixLaws, GraceTree::law, -5);
    }

    static void promise13NoRoomEmptiesTheTape(Check c) {
        GraceTree x = Stands.sixLaws();
        Feeder.feed(x, "bars");
        x.law();
        c.due("count(9)", x.count(9), 0);
    }

    static void promise13TheTapeIsEmptyThen(Check c) {
        GraceTree x = new GraceTree();
        Feeder.law(x, "bars");
        c.due("behind a law", x.count(9), 0);
        Feeder.law(x, "bar");
        c.due("behind a fault", x.count(9), 0);
    }

    /** "-6 (blanks alone: FAULT at the end)". */
    static void promise13BlanksAlone(Check c) {
        faultAt(c, " ", 1);
        faultAt(c, "     ", 5);
        faultAt(c, Stands.many(" ", "", 400), 400);
    }

    static void promise13AnEmptyTape(Check c) {
        faultAt(c, "", 0);
        Refusal.due(c, "law() of nothing", () -> Stands.keys(4), GraceTree::law, -6);
    }

    static void promise13AFaultTakesNoNumber(Check c) {
        GraceTree x = new GraceTree();
        Feeder.law(x, "bar");
        c.due("law()", Feeder.law(x, "bars"), 0);
        Feeder.law(x, "costs");
        c.due("law()", Feeder.law(x, "bars"), 1);
    }

    /** "It leaves what can be undone." */
    static void promise13ItLeavesWhatCanBeUndone(Check c) {
        GraceTree x = Stands.keys(4);
        Feeder.law(x, "bars");
        c.due("count(8)", x.count(8), 1);
        Refusal.due(c, "a fault", () -> Stands.keys(4), y -> Feeder.law(y, "bar"), -6);
        c.due("undo()", x.undo(), 0);
        c.due("the law stays", x.count(7), 1);
    }

    // ---- 13: the language. "TOKENS: longest rows of letters a .. z, of digits, single other bytes"

    static void promise13TokensNeedNoBlanks(Check c) {
        stands(c, "costs1");
        stands(c, "costs 1if 2=2");
        stands(c, "costs1if(key=1)or[2]<3;bars");
    }

    /** 10: "The TAPE has its first n bytes alone": what lay behind them is no part of a TOKEN. */
    static void promise13TheTextEndsWhereTheTapeDoes(Check c) {
        GraceTree x = Stands.grace();
        Feeder.feed(x, "barsbars");
        x.end(4);
        c.due("a word that is cut", x.law(), 0);
        Feeder.feed(x, "costs 1234");
        x.end(8);
        c.due("a number that is cut", x.law(), 1);
        c.due("compare(1, 1, 0)", x.compare(1, 1, 0), 12);
        Feeder.feed(x, "costs 1+");
        x.end(7);
        c.due("a sum that is cut", x.law(), 2);
    }

    static void promise13ALawBehindALongerText(Check c) {
        GraceTree x = new GraceTree();
        x.image(0);
        for (int i = 0; i < 40; i++) {
            c.due("law()", Feeder.law(x, "costs " + Stands.many("1", "+", 40) + ";bars"), 0);
            x.back(0);
        }
        c.due("law()", Feeder.law(x, "costs 7 if 2=2"), 0);
        c.due("compare(0, 1, 0)", x.compare(0, 1, 0), 7);
        x.force(0);
        c.due("nothing is barred", x.put(1, 1), 0);
    }

    static void promise13BlanksMayStandAnywhereBetween(Check c) {
        stands(c, "   costs   1   +   2   if   key   =   1   ;   bars   ");
    }

    static void promise13LettersThatTouchAreOneToken(Check c) {
        faultAt(c, "costs 1ifkey=1", 7);
        faultAt(c, "barsif key=1", 0);
        faultAt(c, "costs keytime", 6);
    }

    static void promise13DigitsThatTouchAreOneToken(Check c) {
        faultAt(c, "costs 1 2", 8);
        stands(c, "costs 12");
    }

    static void promise13LettersFromAToZAlone(Check c) {
        faultAt(c, "Bars", 0);
        faultAt(c, "costs Key", 6);
        faultAt(c, "bars`", 4);
        faultAt(c, "bars{", 4);
        faultAt(c, "barsz", 0);
        faultAt(c, "barsa", 0);
        faultAt(c, "costs 1 if zz=1", 11);
        faultAt(c, "aa", 0);
    }

    static void promise13OtherBytesAreSingleTokens(Check c) {
        faultAt(c, "bars\t", 4);
        faultAt(c, "bars\n", 4);
        faultAt(c, "bars" + (char) 0, 4);
        faultAt(c, "bars" + (char) 1, 4);
        faultAt(c, "bars" + (char) 2, 4);
        faultAt(c, "bars" + (char) 31, 4);
        faultAt(c, "bars" + (char) 33, 4);
        faultAt(c, "bars" + (char) 127, 4);
        faultAt(c, "bars" + (char) 128, 4);
        faultAt(c, "bars" + (char) 255, 4);
        faultAt(c, "costs 1/:", 8);
        faultAt(c, "costs " + (char) 1, 6);
        faultAt(c, "costs " + (char) 0, 6);
    }

    static void promise13ATextOf400Bytes(Check c) {
        stands(c, Stands.many(" ", "", 396) + "bars");
        faultAt(c, Stands.many(" ", "", 396) + "bare", 396);
        faultAt(c, "bars" + Stands.many(" ", "", 395) + "x", 399);
    }

    // ---- 13: "CLAUSE {";" CLAUSE}, 12 at most (FAULT at the 13th's first TOKEN)"

    static void promise13TwelveClauses(Check c) {
        stands(c, Stands.many("bars", ";", 12));
        costs(c, Stands.many("bars", ";", 11) + ";costs 5", 5);
    }

    static void promise13AThirteenthClause(Check c) {
        faultAt(c, Stands.many("bars", ";", 13), 60);
        faultAt(c, Stands.many("bars", ";", 12) + ";   bars", 63);
    }

    static void promise13AThirteenthClauseThatCannotBe(Check c) {
        faultAt(c, Stands.many("bars", ";", 12) + ";costs (", 60);
        faultAt(c, Stands.many("bars", ";", 12) + ";", 60);
    }

    static void promise13AClauseMustStandBehindEachSemicolon(Check c) {
        faultAt(c, ";", 0);
        faultAt(c, "bars;", 5);
        faultAt(c, "bars; ", 6);
        faultAt(c, "bars;;bars", 5);
        faultAt(c, ";bars", 0);
    }

    // ---- 13: the two clauses

    static void promise13CostsNeedsASum(Check c) {
        faultAt(c, "costs", 5);
        faultAt(c, "costs;", 5);
        faultAt(c, "costs if 1=1", 6);
        faultAt(c, "costs 1=1", 7);
    }

    static void promise13EachWordHasItsPlaces(Check c) {
        for (String word : new String[] {"bars", "costs", "if", "or", "and", "not"}) {
            faultAt(c, "costs " + word + " 1", 6);
            faultAt(c, "costs 1 + " + word + " 1", 10);
        }
        faultAt(c, "if 1=1", 0);
        faultAt(c, "not bars", 0);
        faultAt(c, "costs 1 or 2", 8);
        faultAt(c, "bars and 1=1", 5);
    }

    static void promise13WordsMustMatchWholly(Check c) {
        faultAt(c, "zars", 0);
        faultAt(c, "bara", 0);
        faultAt(c, "bar", 0);
        faultAt(c, "zosts 1", 0);
        faultAt(c, "costz 1", 0);
        faultAt(c, "cost 1", 0);
        faultAt(c, "bars zf 1=1", 5);
        faultAt(c, "bars i 1=1", 5);
        faultAt(c, "bars if zot 1=1", 8);
        faultAt(c, "bars if 1=1 zr 1=1", 12);
        faultAt(c, "bars if 1=1 znd 1=1", 12);
    }

    static void promise13BarsTakesNoSum(Check c) {
        stands(c, "bars");
        faultAt(c, "bars 1", 5);
    }

    static void promise13IfNeedsATest(Check c) {
        faultAt(c, "bars if", 7);
        faultAt(c, "bars if;", 7);
        faultAt(c, "bars if 1", 9);
        faultAt(c, "bars if 1=", 10);
        faultAt(c, "bars if key=1 if key=2", 14);
    }

    static void promise13WordsOfOrdersAreNone(Check c) {
        faultAt(c, "put 1 as 1", 0);
        faultAt(c, "begin", 0);
        faultAt(c, "bars times 2", 5);
        for (String word : new String[] {"done", "latest", "waits", "graces", "at", "value"}) {
            faultAt(c, "costs " + word + " 1", 6);
        }
    }

    static void promise13AllWordsOfLaws(Check c) {
        for (String word : new String[] {"node", "level", "child", "many", "key", "time", "mood"}) {
            stands(c, "costs " + word);
            faultAt(c, "costs " + word + "s", 6);
            faultAt(c, "costs " + word.substring(1), 6);
            faultAt(c, "costs z" + word.substring(1), 6);
        }
    }

    // ---- 13: "NUMBER (to 1,000)"

    static void promise13NumbersTo1000(Check c) {
        stands(c, "costs 0");
        stands(c, "costs 1000");
        costs(c, "costs 1000 / 20", 50);
    }

    static void promise13ANumberOf1001(Check c) {
        faultAt(c, "costs 1001", 6);
        faultAt(c, "costs 1+1001", 8);
    }

    static void promise13NumbersFarTooLarge(Check c) {
        faultAt(c, "costs 2147483648", 6);
        faultAt(c, "costs 4294967296", 6);
        faultAt(c, "costs 18446744073709551617", 6);
        faultAt(c, "costs " + Stands.many("9", "", 394), 6);
    }

    static void promise13ZerosAheadOfANumber(Check c) {
        costs(c, "costs 0000000000000000000000042", 42);
        stands(c, "costs 0001000");
        faultAt(c, "costs 0001001", 6);
        costs(c, "costs " + Stands.many("0", "", 394), 0);
    }

    static void promise13NumbersBelow0AreNone(Check c) {
        faultAt(c, "costs -1", 6);
        faultAt(c, "costs 1--1", 8);
        faultAt(c, "costs +1", 6);
    }

    // ---- 13: "50 PARTS that are NUMBERS and words (FAULT at the 51st)"

    static void promise13FiftyParts(Check c) {
        costs(c, "costs " + Stands.many("1", "+", 50), 50);
        stands(c, "costs " + Stands.many("node", "-", 50));
    }

    static void promise13AFiftyFirstPart(Check c) {
        faultAt(c, "costs " + Stands.many("1", "+", 51), 106);
        faultAt(c, "costs " + Stands.many("1", "+", 50) + "+ key", 107);
    }

    static void promise13PartsOfAllClausesCount(Check c) {
        String half = "costs " + Stands.many("1", "+", 25);
        stands(c, half + ";" + half);
        faultAt(c, half + ";" + half + "+1", 112);
        faultAt(c, half + ";" + half + ";bars if 1=1", 120);
    }

    static void promise13BracketsAreNoParts(Check c) {
        stands(c, "costs " + Stands.many("[1]", "+", 50));
        faultAt(c, "costs " + Stands.many("[1]", "+", 51), 207);
    }

    // ---- 13: "8 brackets of both kinds within one another (FAULT at the 9th) at most"

    static void promise13EightBracketsOfSums(Check c) {
        costs(c, "costs [[[[[[[[5]]]]]]]]", 5);
    }

    static void promise13ANinthBracketOfSums(Check c) {
        faultAt(c, "costs [[[[[[[[[5]]]]]]]]]", 14);
    }

    static void promise13EightBracketsOfTests(Check c) {
        isSo(c, "((((((((1=1))))))))");
    }

    static void promise13ANinthBracketOfTests(Check c) {
        faultAt(c, "bars if (((((((((1=1)))))))))", 16);
    }

    static void promise13BracketsOfBothKindsCountTogether(Check c) {
        isSo(c, "((((([[[1]]]=1)))))");
        faultAt(c, "bars if ((((([[[[1]]]]=1)))))", 16);
        isSo(c, "(((((((1=[1])))))))");
        isSo(c, "((((((((1=1))))))))");
        faultAt(c, "bars if ((((((((1=[1]))))))))", 18);
    }

    static void promise13BracketsBesideOneAnotherDoNotCount(Check c) {
        isSo(c, "((((((((1=1)))))))) and ((((((((1=1))))))))");
        costs(c, "costs [[[[[[[[2]]]]]]]] + [[[[[[[[3]]]]]]]]", 5);
        stands(c, "costs " + Stands.many("[1]", "+", 20));
    }

    static void promise13BracketsMustMatch(Check c) {
        faultAt(c, "costs [", 7);
        faultAt(c, "costs [1", 8);
        faultAt(c, "costs [1+", 9);
        faultAt(c, "costs [1)", 8);
        faultAt(c, "costs 1]", 7);
        faultAt(c, "costs []", 7);
        faultAt(c, "costs (1)", 6);
        faultAt(c, "bars if (", 9);
        faultAt(c, "bars if (1", 10);
        faultAt(c, "bars if (1=", 11);
        faultAt(c, "bars if (1=1 or", 15);
        faultAt(c, "bars if (1=1", 12);
        faultAt(c, "bars if (1=1]", 12);
        faultAt(c, "bars if 1=1)", 11);
        faultAt(c, "bars if ()", 9);
        faultAt(c, "bars if [1=1]", 10);
        faultAt(c, "bars if (1)=1", 10);
    }

    // ---- 13, 15: "FAULT: the first TOKEN that can't go on there (the end's: the TEXT's length)"

    static void promise15AheadOfAny(Check c) {
        c.due("fault()", new GraceTree().fault(), -1);
    }

    static void promise15NoneWithout(Check c) {
        GraceTree x = new GraceTree();
        Feeder.law(x, "bar");
        c.due("with one", x.fault(), 0);
        Feeder.law(x, "bars");
        c.due("a good law behind it", x.fault(), -1);
        Feeder.orders(x, "begin 1");
        c.due("with one", x.fault(), 6);
        Feeder.orders(x, "tick 1");
        c.due("good orders behind it", x.fault(), -1);
    }

    static void promise15TheFirstToken(Check c) {
        faultAt(c, "x", 0);
        faultAt(c, "  x", 2);
    }

    static void promise15TheEndIsTheLength(Check c) {
        faultAt(c, "costs", 5);
        faultAt(c, "costs ", 6);
        faultAt(c, "costs 1 +   ", 12);
        faultAt(c, "costs" + Stands.many(" ", "", 395), 400);
    }

    static void promise15TheStartOfALongToken(Check c) {
        faultAt(c, "bars if keys = 1", 8);
        faultAt(c, "costs 1 " + Stands.many("a", "", 392), 8);
    }

    /** "of the latest law(), orders() that read a TEXT": one without room reads none. */
    static void promise15NoRoomLeavesIt(Check c) {
        GraceTree x = Stands.sixLaws();
        Feeder.orders(x, "begin 1");
        c.due("law()", Feeder.law(x, "bar"), -5);
        c.due("a fault stays", x.fault(), 6);
        Feeder.orders(x, "tick 1");
        c.due("law()", Feeder.law(x, "bar"), -5);
        c.due("none stays", x.fault(), -1);
    }

    static void promise15OrdersThatCannotBeReadTheirText(Check c) {
        GraceTree x = new GraceTree();
        Feeder.law(x, "bar");
        c.due("orders()", Feeder.orders(x, "begin"), -3);
        c.due("fault()", x.fault(), -1);
    }

    static void promise15RowAndBackLeaveIt(Check c) {
        GraceTree x = new GraceTree();
        x.image(0);
        Feeder.law(x, "bars 1");
        Feeder.row(x, 1, 1);
        c.due("behind row()", x.fault(), 5);
        x.back(0);
        c.due("behind back()", x.fault(), 5);
    }

    // ---- 13, 38: "Beyond 1,000,000,000 either way, or divided by 0, a SUM, a TEST is BROKEN"

    static void promise13ASumOfABillion(Check c) {
        isSo(c, "1000*1000*1000=1000*1000*1000");
        isSo(c, "0-1000*1000*1000<0");
        costs(c, "costs 1000*1000*1000", 99);
        costs(c, "costs 0-1000*1000*1000", 0);
    }

    static void promise13ASumBeyondABillion(Check c) {
        isNotSo(c, "1000*1000*1000+1>0");
        isNotSo(c, "0<1000*1000*1000+1");
        costs(c, "costs 5;costs 1000*1000*1000+1", 5);
    }

    static void promise13ASumBeyondABillionBelow0(Check c) {
        isNotSo(c, "0-1000*1000*1000-1<0");
        costs(c, "costs 5;costs 0-1000*1000*1000-1", 5);
        costs(c, "costs 5;costs [0-1000]*1000*[1000+1]", 5);
    }

    static void promise13BeyondABillionOnTheWay(Check c) {
        costs(c, "costs 5;costs 1000*1000*1000*10/1000/1000/1000", 5);
        costs(c, "costs 5;costs 1000*1000*1000+1-1000*1000*1000", 5);
        costs(c, "costs 5;costs [1000*1000*1000+1]*0", 5);
    }

    /** Far beyond what a long holds: it stays BROKEN. */
    static void promise13FarBeyondABillion(Check c) {
        costs(c, "costs 5;costs " + Stands.many("1000", "*", 40), 5);
        isNotSo(c, Stands.many("1000", "*", 25) + "=0");
    }

    static void promise13DividedBy0(Check c) {
        costs(c, "costs 5;costs 1/0", 5);
        costs(c, "costs 5;costs 0/0", 5);
        costs(c, "costs 5;costs 1/[2-2]", 5);
        isNotSo(c, "1/0=0");
        isNotSo(c, "not 1/0=0");
    }

    static void promise13WhatIsLeftBy0(Check c) {
        costs(c, "costs 5;costs 1%0", 5);
        costs(c, "costs 5;costs 0%0", 5);
        isNotSo(c, "1%0=0");
        isNotSo(c, "not 1%0=0");
    }

    /** "/ cut towards 0, % what is left then". */
    static void promise13CutTowards0(Check c) {
        isSo(c, "7/2=3");
        isSo(c, "[0-7]/2=0-3");
        isSo(c, "7/[0-2]=0-3");
        isSo(c, "[0-7]/[0-2]=3");
        isSo(c, "7/1=7");
        isSo(c, "0/7=0");
        isSo(c, "1/2=0");
        isSo(c, "[0-1]/2=0");
    }

    static void promise13WhatIsLeft(Check c) {
        isSo(c, "7%2=1");
        isSo(c, "[0-7]%2=0-1");
        isSo(c, "7%[0-2]=1");
        isSo(c, "[0-7]%[0-2]=0-1");
        isSo(c, "7%1=0");
        isSo(c, "6%2=0");
        isSo(c, "0%5=0");
    }

    /** "TERM: PART {("*" | "/" | "%") PART}", from the left, ahead of + and -. */
    static void promise13FromTheLeft(Check c) {
        costs(c, "costs 20-3-2", 15);
        costs(c, "costs 100/5/2", 10);
        costs(c, "costs 100/5*2", 40);
        costs(c, "costs 17%10*3", 21);
        costs(c, "costs 2+3*4", 14);
        costs(c, "costs 20-6/2", 17);
        costs(c, "costs [2+3]*4", 20);
    }

    static void promise13EqualNumbersAreNeitherBelowNorAbove(Check c) {
        isNotSo(c, "3<3");
        isNotSo(c, "3>3");
        isSo(c, "3=3");
        isSo(c, "2<3");
        isNotSo(c, "2>3");
        isSo(c, "3>2");
        isNotSo(c, "3<2");
        isNotSo(c, "2=3");
    }

    /** ""or", "and" ask what stands behind only if it can still matter". */
    static void promise13OrAsksOnlyIfItMatters(Check c) {
        isSo(c, "1=1 or 1/0=1");
        isNotSo(c, "1=2 or 1/0=1");
        isNotSo(c, "not (1=2 or 1/0=1)");
        isSo(c, "1=2 or 1=1 or 1/0=1");
        isSo(c, "1=1 or 1/0=1 and 1/0=1");
        isSo(c, "1=1 or 1000*1000*1000+1=1");
    }

    static void promise13AndAsksOnlyIfItMatters(Check c) {
        isSo(c, "not (1=2 and 1/0=1)");
        isNotSo(c, "1=1 and 1/0=1");
        isNotSo(c, "not (1=1 and 1/0=1)");
        isSo(c, "1=2 and 1/0=1 or 1=1");
        isSo(c, "not (1=1 and 1=2 and 1/0=1)");
    }

    static void promise13ABrokenTestAhead(Check c) {
        isNotSo(c, "1/0=1 or 1=1");
        isNotSo(c, "not (1/0=1 and 1=2)");
        isNotSo(c, "(1/0=1) or 1=1");
    }

    static void promise13AndBindsCloserThanOr(Check c) {
        isSo(c, "1=1 or 1=1 and 1=2");
        isNotSo(c, "(1=1 or 1=1) and 1=2");
        isSo(c, "1=2 and 1=2 or 1=1");
        isNotSo(c, "1=2 and (1=2 or 1=1)");
    }

    static void promise13NotIsOfThePlainTestBehindIt(Check c) {
        isNotSo(c, "not 1=2 and 1=2");
        isSo(c, "not (1=2 and 1=2)");
        isSo(c, "not not 1=1");
        isNotSo(c, "not not not 1=1");
        isNotSo(c, "not 5=5");
        isSo(c, "not 5=4");
        isNotSo(c, "not 2<3");
        isSo(c, "not 3<2");
        isNotSo(c, "not 3>2");
        isSo(c, "not 2>3");
        isSo(c, Stands.many("not", " ", 90) + " 1=1");
        isNotSo(c, Stands.many("not", " ", 91) + " 1=1");
        faultAt(c, "bars if not", 11);
        faultAt(c, "bars if 1=1 not", 12);
    }

    static void promise13OrAndAndNeedWhatStandsBehind(Check c) {
        faultAt(c, "bars if 1=1 or", 14);
        faultAt(c, "bars if 1=1 and", 15);
        faultAt(c, "bars if or 1=1", 8);
        faultAt(c, "bars if 1=1 or or 1=1", 15);
        faultAt(c, "bars if 1=1=1", 11);
        faultAt(c, "bars if 1<=1", 10);
    }

    // ---- 38: compare, and what a REPORT COSTS

    /** "A REPORT COSTS 0 .. 99 ... (else the nearest)". */
    static void promise38CostsFrom0To99(Check c) {
        costs(c, "costs 0", 0);
        costs(c, "costs 99", 99);
    }

    static void promise38CostsBeyond99(Check c) {
        costs(c, "costs 100", 99);
        costs(c, "costs 1000*1000*1000", 99);
    }

    static void promise38CostsBelow0(Check c) {
        costs(c, "costs 0-1", 0);
        costs(c, "costs 0-1000*1000*1000", 0);
    }

    /** "1 without". */
    static void promise38CostsWithoutAClauseThatHolds(Check c) {
        costs(c, "bars", 1);
        costs(c, "costs 5 if 1=2", 1);
        costs(c, "costs 1/0", 1);
        costs(c, "costs 5 if 1/0=1", 1);
    }

    /** "as the last "costs" that HOLDS tells". */
    static void promise38TheLastThatHolds(Check c) {
        costs(c, "costs 5;costs 6", 6);
        costs(c, "costs 5;costs 6 if 1=2", 5);
        costs(c, "costs 5;costs 6/0", 5);
        costs(c, "costs 5;costs 6 if 1/0=1", 5);
        costs(c, "costs 5;bars", 5);
        costs(c, "costs 4 if 1=2;costs 5;costs 6 if 1=2;costs 7/0", 5);
    }

    /** "key -1" of a NODE that is asked. */
    static void promise38TheKeyIsNone(Check c) {
        costs(c, "costs 5 if key=0-1", 5);
        costs(c, "costs key+1", 0);
    }

    static void promise38TheWordsOfANode(Check c) {
        costs(c, "costs node", 6);
        costs(c, "costs level", 2);
        costs(c, "costs child", 1);
        costs(c, "costs many", 2);
    }

    /** I: "LEVEL: 0 of the TOP, 1 of NODES 2, 3, 2 of LEAVES". */
    static void promise38LevelsOfAllNodes(Check c) {
        GraceTree x = Stands.law("costs level");
        int[] due = {0, 1, 1, 2, 2, 2, 2};
        for (int node = 1; node <= 7; node++) {
            c.due("compare(0, " + node + ", 0)", x.compare(0, node, 0), due[node - 1]);
        }
    }

    /** "many: how many CELLS are CURRENT": none without a GRACE, 24 at most. */
    static void promise38ManyFrom0To24(Check c) {
        GraceTree x = Stands.law("costs many");
        for (int key = 0; key < 24; key++) {
            x.put(key, 0);
        }
        for (int key = 0; key < 24; key++) {
            x.drop(key);
        }
        c.due("none runs", x.compare(0, 1, 0), 0);
        x.begin();
        c.due("all cells", x.compare(0, 1, 0), 24);
    }

    static void promise38TimeAndMoodAtTheirEnds(Check c) {
        GraceTree x = Stands.law("costs 5 if time=999 and mood=9;costs 6 if time=0 and mood=0");
        c.due("both 0", x.compare(0, 1, 0), 6);
        x.terms(0, 999);
        c.due("one of them", x.compare(0, 1, 0), 1);
        x.terms(2, 9);
        c.due("both at their highest", x.compare(0, 1, 0), 5);
    }

    /** "NONE: none" in FORCE. */
    static void promise38NoLaw(Check c) {
        GraceTree x = Stands.law("costs 5");
        c.due("compare(-1, 1, 0)", x.compare(-1, 1, 0), 1);
        c.due("compare(0, 1, 0)", x.compare(0, 1, 0), 5);
    }

    /** "NONE (no such LAW, NODE; a CHILD that is not 0, 1)". */
    static void promise38NoSuchLaw(Check c) {
        GraceTree x = Stands.sixLaws();
        c.due("compare(5, 1, 0)", x.compare(5, 1, 0), 5);
        c.due("compare(6, 1, 0)", x.compare(6, 1, 0), -1);
        c.due("compare(-2, 1, 0)", x.compare(-2, 1, 0), -1);
        c.due("compare(MIN, 1, 0)", x.compare(MIN, 1, 0), -1);
        c.due("compare(MAX, 1, 0)", x.compare(MAX, 1, 0), -1);
        c.due("of none at all", new GraceTree().compare(0, 1, 0), -1);
        GraceTree y = Stands.law("costs 5");
        c.due("one more than there are", y.compare(1, 1, 0), -1);
    }

    static void promise38NoSuchNode(Check c) {
        GraceTree x = Stands.law("costs node");
        c.due("compare(0, 1, 0)", x.compare(0, 1, 0), 1);
        c.due("compare(0, 7, 0)", x.compare(0, 7, 0), 7);
        c.due("compare(0, 0, 0)", x.compare(0, 0, 0), -1);
        c.due("compare(0, 8, 0)", x.compare(0, 8, 0), -1);
        c.due("compare(0, MIN, 0)", x.compare(0, MIN, 0), -1);
        c.due("compare(0, MAX, 0)", x.compare(0, MAX, 0), -1);
        c.due("compare(-1, 8, 0)", x.compare(-1, 8, 0), -1);
    }

    static void promise38NoSuchChild(Check c) {
        GraceTree x = Stands.law("costs child");
        c.due("compare(0, 4, 0)", x.compare(0, 4, 0), 0);
        c.due("compare(0, 4, 1)", x.compare(0, 4, 1), 1);
        c.due("compare(0, 4, -1)", x.compare(0, 4, -1), -1);
        c.due("compare(0, 4, 2)", x.compare(0, 4, 2), -1);
        c.due("compare(0, 4, MIN)", x.compare(0, 4, MIN), -1);
        c.due("compare(-1, 4, MAX)", x.compare(-1, 4, MAX), -1);
    }

    static void promise38NoneIsNoRefusal(Check c) {
        GraceTree x = Stands.law("costs 5");
        x.compare(9, 1, 0);
        x.compare(0, 9, 0);
        x.compare(0, 1, 9);
        c.due("status()", x.status(), 0);
        c.due("count(10)", x.count(10), 0);
        c.due("count(11)", x.count(11), 0);
        c.due("the law in force stays", x.count(15), 0);
    }

    // ---- 17: force

    /** "(NONE: none): which was". */
    static void promise17NoneIsNoRefusal(Check c) {
        GraceTree x = new GraceTree();
        x.hurry();
        c.due("force(-1)", x.force(-1), -1);
        c.due("status()", x.status(), 0);
        c.due("count(10)", x.count(10), 0);
        c.due("count(11)", x.count(11), 0);
    }

    static void promise17FirstAndLastLaw(Check c) {
        GraceTree x = Stands.sixLaws();
        c.due("force(0)", x.force(0), -1);
        c.due("status() though none was", x.status(), 0);
        c.due("force(5)", x.force(5), 0);
        c.due("count(15)", x.count(15), 5);
        c.due("force(-1)", x.force(-1), 5);
        c.due("count(15)", x.count(15), -1);
    }

    /** "-2". */
    static void promise17NoSuchLaw(Check c) {
        Refusal.due(c, "force(0) of none", GraceTree::new, x -> x.force(0), -2);
        Refusal.due(c, "force(1) of one", () -> Stands.law("costs 5"), x -> x.force(1), -2);
        Refusal.due(c, "force(6) of six", Stands::sixLaws, x -> x.force(6), -2);
        Refusal.due(c, "force(-2)", Stands::sixLaws, x -> x.force(-2), -2);
        Refusal.due(c, "force(MIN)", Stands::sixLaws, x -> x.force(MIN), -2);
        Refusal.due(c, "force(MAX)", Stands::sixLaws, x -> x.force(MAX), -2);
    }

    static void promise17TheSameOnceMore(Check c) {
        GraceTree x = Stands.law("costs 5");
        c.due("force(0)", x.force(0), 0);
        c.due("count(15)", x.count(15), 0);
    }

    /** "It leaves what can be undone." */
    static void promise17ItLeavesWhatCanBeUndone(Check c) {
        GraceTree x = Stands.keys(4);
        Feeder.law(x, "costs 5");
        x.force(0);
        c.due("count(8)", x.count(8), 1);
        c.due("undo()", x.undo(), 0);
        c.due("the force stays", x.count(15), 0);
    }

    static void promise17FromTheNextReportOn(Check c) {
        GraceTree x = Stands.grace();
        Feeder.law(x, "costs 5");
        x.tick(0);
        c.due("with none", x.count(5), 1);
        x.force(0);
        x.tick(2);
        c.due("by the law", x.count(5), 6);
        x.force(-1);
        x.tick(4);
        c.due("with none again", x.count(5), 7);
    }
}
