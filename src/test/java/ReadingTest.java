import java.math.BigInteger;
import java.util.function.ToIntFunction;

/**
 * Cases for sentences of the document that had none of their own, found by reading it once more from
 * its first line; src/test/sentences.txt has each sentence with its cases. Where a sentence is about
 * all objects, it is looked at in stands that DAYS done by calls lead to.
 */
public final class ReadingTest {
    private static final int SEEDS = 60;
    private static final int ENTER = 2;
    private static final int STEP = 3;
    private static final int PARK = 4;
    private static final int LEAVE = 5;
    private static final int HURRY = 8;

    public static void main(String[] args) {
        Cases.run(ReadingTest.class);
    }

    /** Some stand, another one for each SEED; half of them have more KEYS than DAYS put. */
    private static GraceTree some(int seed) {
        GraceTree x = new GraceTree();
        for (int key = 9; key > 5 && seed % 2 == 1; key--) {
            x.put(key, seed);
        }
        Days.byHand(x, seed, 30 + seed % 31);
        return x;
    }

    private static int[] day(int first, int act) {
        return new int[] {first, act};
    }

    private static boolean runs(GraceTree x, int grace) {
        return x.count(4) == 1 && x.count(3) == grace;
    }

    // ---- I: CELLS, LIST, GRACES

    /** "LIVE (1: in the LIST) or OLD (2: out of it, not yet FREE)". */
    static void promise03LiveInTheListOldOutOfIt(Check c) {
        for (int seed = 0; seed < SEEDS; seed++) {
            GraceTree x = some(seed);
            int[] due = new int[24];
            for (int i = 0; x.list(i) != -1; i++) {
                due[x.list(i)] = 1;
            }
            for (int which = 0; which <= 1; which++) {
                for (int i = 0; x.old(which, i) != -1; i++) {
                    due[x.old(which, i)] = 2;
                }
            }
            for (int cell = 0; cell < 24; cell++) {
                c.due("cell(" + cell + ", 0), seed " + seed, x.cell(cell, 0), due[cell]);
            }
        }
    }

    /** "LIST: from its HEAD by NEXT, KEYS rising". */
    static void promise04FromItsHeadByNextKeysRising(Check c) {
        for (int seed = 0; seed < SEEDS; seed++) {
            GraceTree x = some(seed);
            int cell = x.list(0);
            int key = -1;
            int i = 0;
            for (; cell != -1; i++) {
                c.due("list(" + i + "), seed " + seed, x.list(i), cell);
                c.so("its key rises, seed " + seed, x.cell(cell, 1) > key);
                key = x.cell(cell, 1);
                cell = x.cell(cell, 3);
            }
            c.due("behind the last, seed " + seed, x.list(i), -1);
            c.due("count(0), seed " + seed, x.count(0), i);
        }
    }

    /** "The VALUE of a KEY in the LIST": as its CELL has it. */
    static void promise05TheValueOfItsCell(Check c) {
        for (int seed = 0; seed < SEEDS; seed++) {
            GraceTree x = some(seed);
            for (int i = 0; x.list(i) != -1; i++) {
                int cell = x.list(i);
                c.due("find, seed " + seed, x.find(x.cell(cell, 1)), x.cell(cell, 2));
            }
        }
    }

    /** "CURRENT: the OLD CELLS it is for", "WAITING: the other OLD CELLS": each OLD one is one of them. */
    static void promise07EachOldCellIsOneOfThem(Check c) {
        for (int seed = 0; seed < SEEDS; seed++) {
            GraceTree x = some(seed);
            int old = 0;
            for (int cell = 0; cell < 24; cell++) {
                old += x.cell(cell, 0) == 2 ? 1 : 0;
            }
            c.due("waiting and current, seed " + seed, x.count(1) + x.count(2), old);
            for (int which = 0; which <= 1; which++) {
                int many = x.count(1 + which);
                c.due("the last, seed " + seed, x.old(which, many) + 1, 0);
                c.so("none is left out, seed " + seed, many == 0 || x.old(which, many - 1) != -1);
            }
            c.so("current ones while one runs alone, seed " + seed, (x.count(2) > 0) == (x.count(4) == 1));
        }
    }

    /** A GRACE that RUNS keeps its CELLS, what becomes OLD meanwhile is for the next one. */
    static void promise07WhatBecomesOldMeanwhileWaits(Check c) {
        GraceTree x = Stands.grace();
        x.put(2, 2);
        x.put(2, 3);
        x.drop(2);
        c.due("current", x.count(2), 1);
        c.due("old(1, 0)", x.old(1, 0), 0);
        c.due("waiting", x.count(1), 2);
        c.due("old(0, 0)", x.old(0, 0), 1);
        c.due("old(0, 1)", x.old(0, 1), 2);
    }

    /** IV: "one that can't be ... is a TEAR: nothing". */
    static void promise11ATearChangesNothing(Check c) {
        GraceTree x = Stands.keys(4, 6);
        Feeder.law(x, "bars if key = 4");
        x.force(0);
        x.terms(2, 5);
        Feeder.row(x, 200);
        String before = Refusal.tell(x).replaceAll("tears:\\d+", "");
        c.due("row()", Feeder.row(x, 4, 9, 100, 1, 6), 0);
        c.due("tears()", x.tears(), 3);
        c.same("what stands", Refusal.tell(x).replaceAll("tears:\\d+", ""), before);
    }

    // ---- II: LAWS, ORDERS

    /** "TEXTS are on a TAPE of at most 400 bytes": its last byte alone is a TOKEN. */
    static void promise15TheLastOf400Bytes(Check c) {
        for (String last : new String[] {"x", "1", "(", ";"}) {
            GraceTree x = new GraceTree();
            c.due("law()", Feeder.law(x, Stands.many(" ", "", 399) + last), -6);
            c.due("fault() at <" + last + ">", x.fault(), 399);
            c.due("orders()", Feeder.orders(x, Stands.many(" ", "", 399) + last), -6);
            c.due("fault() at <" + last + ">", x.fault(), 399);
        }
    }

    /** "(NONE at first: no CLAUSE)": a REPORT COSTS 1, no KEY is BARRED, whatever LAWS there are. */
    static void promise17WithNoneThereIsNoClause(Check c) {
        GraceTree x = Stands.grace();
        Feeder.law(x, "bars; costs 50");
        c.due("put(5, 5)", x.put(5, 5), 1);
        x.tick(0);
        c.due("a report", x.count(5), 1);
        c.due("compare(-1, 4, 0)", x.compare(-1, 4, 0), 1);
    }

    /** "time: TIME as it is then", of a KEY. */
    static void promise18BarredByTimeAsItIsThen(Check c) {
        GraceTree x = Stands.graceButSeven();
        Feeder.law(x, "bars if time = 1");
        x.force(0);
        c.due("at 0", x.put(5, 5), 1);
        x.tick(7);
        c.due("at 1", x.put(6, 6), -3);
        x.undo();
        c.due("at 0 again", x.put(6, 6), 2);
    }

    static void promise18BarredByMood(Check c) {
        GraceTree x = Stands.law("bars if mood = 9 and key = 5");
        c.due("another mood", x.put(5, 5), 0);
        x.terms(2, 9);
        c.due("that mood", x.put(5, 6), -3);
        c.due("another key", x.put(6, 6), 1);
    }

    /** "time: TIME as it is then", of a NODE: the last REPORT still comes ahead of the TIME's rise. */
    static void promise24CostsByTimeAsItIsThen(Check c) {
        GraceTree x = Stands.grace();
        Feeder.law(x, "costs 10 + time");
        x.force(0);
        x.put(2, 2);
        x.drop(2);
        x.hurry();
        c.due("fourteen reports at 0", x.count(5), 140);
        x.hurry();
        c.due("fourteen more at 1", x.count(5), 140 + 154);
    }

    /** "many: how many CELLS are CURRENT": not those that are WAITING; to the last REPORT. */
    static void promise24CostsByHowManyAreCurrent(Check c) {
        GraceTree x = Stands.keys(1, 2, 3);
        Feeder.law(x, "costs many");
        x.force(0);
        x.drop(1);
        x.drop(2);
        x.begin();
        x.drop(3);
        x.tick(0);
        c.due("one report", x.count(5), 2);
        x.hurry();
        c.due("fourteen reports", x.count(5), 28);
        x.hurry();
        c.due("fourteen more, of one cell", x.count(5), 28 + 14);
    }

    /** A GRACE that ends within a TEXT: "time", "waits", "graces" are as they are then. */
    static void promise14WordsBehindAGraceThatEnded(Check c) {
        GraceTree x = Stands.graceButSeven();
        String text = "put 2 as time; drop 2; put 3 as waits; tick 7; put 4 as time; put 5 as graces; put 6 as waits";
        c.due("orders()", Feeder.orders(x, text), 7);
        c.due("waits ahead of its end", x.find(3), 1);
        c.due("time behind it", x.find(4), 1);
        c.due("graces: the next one began at once", x.find(5), 2);
        c.due("waits", x.find(6), 0);
    }

    /** "at: the CELL of a READER": an OLD one, too. */
    static void promise14AtAnOldCell(Check c) {
        GraceTree x = Stands.keys(1, 3);
        x.enter(6);
        x.step(6);
        c.due("orders()", Feeder.orders(x, "drop 3; put 4 as at 6"), 2);
        c.due("find(4)", x.find(4), 1);
    }

    /** "Run CLAUSE by CLAUSE": each on what the one ahead of it left. */
    static void promise14ClauseByClause(Check c) {
        GraceTree x = new GraceTree();
        c.due("orders()", Feeder.orders(x, "put 1 as 7; enter 0; drop 1; put 2 as value 1 + 2; leave 0; begin"), 6);
        c.due("find(2)", x.find(2), 1);
        c.due("of(0, 0)", x.of(0, 0), 0);
        c.due("current", x.old(1, 0), 0);
    }

    // ---- III: acts

    /** "no CHILD of any NODE has REPORTED": to a GRACE that BEGINS at once neither. */
    static void promise25NobodyHasReportedToTheNextOne(Check c) {
        GraceTree x = Stands.graceButSeven();
        x.put(2, 2);
        x.drop(2);
        x.tick(7);
        for (int n = 1; n <= 7; n++) {
            c.due("node(" + n + ")", x.node(n), 3);
        }
        for (int p = 0; p < 8; p++) {
            c.due("of(" + p + ", 4)", x.of(p, 4), 0);
        }
    }

    /** What is out of the list is freed behind a GRACE alone: no READER comes to a CELL that is FREE. */
    static void promise24NobodyIsAtAFreeCell(Check c) {
        for (int seed = 0; seed < SEEDS; seed++) {
            GraceTree x = some(seed);
            for (int p = 0; p < 8; p++) {
                int at = x.of(p, 1);
                c.so("reader " + p + ", seed " + seed, at == -1 || x.cell(at, 0) != 0);
            }
            for (int cell = 0; cell < 24; cell++) {
                c.so("cell " + cell + ", seed " + seed, x.cell(cell, 0) != 0 || x.reach(cell) == 0);
            }
        }
    }

    /** The acts of ORDERS are told by undo() as the calls are. */
    static void promise27TheActsOfOrdersAsTheCalls(Check c) {
        GraceTree x = new GraceTree();
        Feeder.orders(x, "put 1 as 1; enter 0; step 0; park 0; drop 1; begin; tick 0; leave 0");
        int[] told = {5, 6, 7, 1, 4, 3, 2, 0};
        for (int t : told) {
            c.due("undo()", x.undo(), t);
        }
        c.due("undo()", x.undo(), -3);
    }

    // ---- III: on paper

    /** "A READER SEES: its CELL, the NEXT of that and so on": what it would come to by step(). */
    static void promise28WhatItWouldComeTo(Check c) {
        int most = 0;
        for (int seed = 0; seed < SEEDS; seed++) {
            for (int p = 0; p < 8; p++) {
                GraceTree x = some(seed);
                if (x.of(p, 0) == 0) {
                    x.enter(p);
                }
                boolean parked = x.of(p, 2) == 1;
                int[] seen = new int[25];
                for (int i = 0; i < 25; i++) {
                    seen[i] = x.sees(p, i);
                }
                c.due("its own, seed " + seed, seen[0], x.of(p, 1));
                for (int i = 1; i < 25 && !parked && seen[i - 1] != -1; i++) {
                    c.due("step " + i + " of " + p + ", seed " + seed, x.step(p), seen[i] + 1);
                    most = Math.max(most, i);
                }
            }
        }
        c.so("some reader goes far", most > 2);
    }

    /** "REACH of a CELL: READERS that are IN and SEE it." */
    static void promise29ThoseThatSeeIt(Check c) {
        for (int seed = 0; seed < SEEDS; seed++) {
            GraceTree x = some(seed);
            int[] due = new int[24];
            for (int p = 0; p < 8; p++) {
                for (int i = 0; x.sees(p, i) != -1; i++) {
                    due[x.sees(p, i)] |= 1 << p;
                }
            }
            for (int cell = 0; cell < 24; cell++) {
                c.due("reach(" + cell + "), seed " + seed, x.reach(cell), due[cell]);
            }
        }
    }

    /** "PROCESSORS that have not REPORTED or the READER of which is HELD". */
    static void promise30NotReportedOrHeld(Check c) {
        for (int seed = 0; seed < SEEDS; seed++) {
            GraceTree x = some(seed);
            int due = 0;
            for (int p = 0; p < 8; p++) {
                due |= x.of(p, 4) == 0 || x.of(p, 3) == 1 ? 1 << p : 0;
            }
            c.due("holders(), seed " + seed, x.holders(), due);
        }
    }

    /** "WHY it does not end, as a row": each is a CHILD of the one ahead, the last holds the GRACE. */
    static void promise31DownTheTreeToAHolder(Check c) {
        int held = 0;
        for (int seed = 0; seed < SEEDS; seed++) {
            GraceTree x = some(seed);
            if (x.count(4) == 0) {
                c.due("why(0), seed " + seed, x.why(0), -1);
                continue;
            }
            int last = x.why(3);
            int p = last % 10;
            c.due("why(0), seed " + seed, x.why(0), 1);
            c.due("why(1), seed " + seed, x.why(1), x.why(2) / 2);
            c.due("why(2), seed " + seed, x.why(2), 4 + p / 2);
            c.due("it holds it, seed " + seed, x.holders() >> p & 1, 1);
            c.due("the leaf of the lowest that does, seed " + seed, x.why(2), 4
                + Integer.numberOfTrailingZeros(x.holders()) / 2);
            c.due("why it does, seed " + seed, last / 10, x.of(p, 4) == 0 ? 1 : 2);
            held += last / 10 - 1;
        }
        c.so("some are held by a reader", held > 0);
    }

    /** "how many acts it takes at least till it ends": so many end it, and no fewer of these do. */
    static void promise32JustSoManyActs(Check c) {
        int graces = 0;
        for (int seed = 0; seed < SEEDS; seed++) {
            GraceTree x = some(seed);
            if (x.count(4) == 0) {
                continue;
            }
            graces++;
            int grace = x.count(3);
            int due = x.least();
            int acts = 0;
            for (int p = 0; p < 8; p++) {
                boolean walks = x.of(p, 0) == 1 && x.of(p, 2) == 0 && x.of(p, 4) == 0;
                acts += walks && x.leave(p) >= 0 ? 1 : 0;
            }
            for (int p = 0; p < 8 && runs(x, grace); p++) {
                acts += x.of(p, 4) == 0 && x.tick(p) >= 0 ? 1 : 0;
            }
            for (int p = 0; p < 8 && runs(x, grace); p++) {
                acts += x.of(p, 3) == 1 && x.leave(p) >= 0 ? 1 : 0;
            }
            c.so("it ended, seed " + seed, !runs(x, grace));
            c.due("acts, seed " + seed, acts, due);
        }
        c.so("some graces ran", graces > 5);
    }

    /** "the FACT by which of these the most that are alike are as few as can be; the lowest". */
    static void promise36AsFewAsCanBe(Check c) {
        for (int seed = 0; seed < 20; seed++) {
            int best = -1;
            int fewest = 9;
            for (int fact = 0; fact <= 2; fact++) {
                GraceTree x = some(seed);
                int most = 0;
                for (int n = 0; n <= 100; n++) {
                    x.seen(fact, n);
                    most = Math.max(most, Integer.bitCount(x.canBe()));
                    x.forget();
                }
                best = most < fewest ? fact : best;
                fewest = Math.min(fewest, most);
            }
            GraceTree x = some(seed);
            c.due("ask(0), seed " + seed, x.ask(0), best);
            c.due("ask(1), seed " + seed, x.ask(1), fewest);
        }
    }

    /** FEW of up to twelve reports: nothing is cut yet, so it is the chance itself. */
    static void promise37TheChanceItself(Check c) {
        for (int losses = 0; losses <= 10; losses++) {
            GraceTree x = new GraceTree();
            x.terms(1, losses);
            for (int n = 0; n <= 12; n++) {
                BigInteger chance = BigInteger.ZERO;
                BigInteger ways = BigInteger.ONE;
                for (int k = 1; k <= 20; k++) {
                    int lost = k - 1;
                    if (lost <= n) {
                        BigInteger part = BigInteger.valueOf(losses).pow(lost)
                            .multiply(BigInteger.valueOf(10 - losses).pow(n - lost)).multiply(ways);
                        chance = chance.add(part.multiply(BigInteger.TEN.pow(12 - n)));
                        ways = ways.multiply(BigInteger.valueOf(n - lost)).divide(BigInteger.valueOf(k));
                    }
                    c.due("few(" + k + ", " + n + ") by " + losses, x.few(k, n), chance.longValueExact());
                }
            }
        }
    }

    /** "COMPARED": on paper, so nothing is paid, and the LAW in FORCE stays. */
    static void promise38NothingIsPaid(Check c) {
        GraceTree x = Stands.grace();
        Feeder.law(x, "costs 5");
        Feeder.law(x, "costs 6");
        x.force(1);
        String before = Refusal.tell(x);
        c.due("compare(0, 4, 0)", x.compare(0, 4, 0), 5);
        c.same("what stands", Refusal.tell(x), before);
        x.tick(0);
        c.due("the report", x.count(5), 6);
    }

    // ---- IV: DAYS

    /** "2 .. 6: the READER ... ENTERS": it holds a GRACE to which its PROCESSOR has not REPORTED. */
    static void promise39AnEnter(Check c) {
        int seed = Days.seedOf(day(3, ENTER), day(-1, HURRY));
        GraceTree x = Stands.grace();
        c.due("hurried, but for that one", x.days(seed, 2), 0);
        c.due("drawn(0)", x.drawn(0), 2);
        x.tick(3);
        c.due("it had reported", x.days(seed, 2), 1);
        c.due("on paper", x.of(3, 0), 0);
    }

    /** "STEPS": no CELL, no GRACE shows it; it neither ENTERS nor PARKS nor LEAVES. */
    static void promise39AStep(Check c) {
        int seed = Days.seedOf(day(3, STEP), day(-1, HURRY), day(3, LEAVE));
        GraceTree x = Stands.keys(1, 2);
        x.drop(1);
        x.begin();
        c.due("one that is out can't", x.days(seed, 2), 1);
        x.enter(3);
        c.due("it is in and holds it", x.days(seed, 2), 0);
        c.due("it was not parked, so it has not reported", x.days(seed, 3), 0);
        c.due("on paper", x.of(3, 1), 1);
    }

    /** "is PARKED": then it REPORTS, and holds its LEAF till it LEAVES. */
    static void promise39APark(Check c) {
        int seed = Days.seedOf(day(3, PARK), day(-1, HURRY), day(3, LEAVE));
        GraceTree x = Stands.grace();
        x.enter(3);
        c.due("held", x.days(seed, 2), 0);
        c.due("and out", x.days(seed, 3), 1);
        c.due("drawn(0)", x.drawn(0), 0);
        c.due("on paper", x.of(3, 2), 0);
    }

    /** "whatever comes of them": days in which nothing can be take their DRAWS, too. */
    static void promise39DrawsOfDaysOnWhichNothingCanBe(Check c) {
        int seed = Days.seedOf(day(3, STEP), day(3, LEAVE), day(-1, HURRY));
        GraceTree x = Stands.grace();
        c.due("nothing in two days", x.days(seed, 2), 0);
        c.due("hurried on the third", x.days(seed, 3), 1);
    }

    // ---- 43

    /** Each count by a number that no other one has. */
    static void promise43EachByItsNumber(Check c) {
        GraceTree x = new GraceTree();
        for (int i = 0; i < 5; i++) {
            Feeder.law(x, "costs 21");
        }
        x.force(4);
        int[] terms = {23, 8, 7};
        for (int i = 0; i < 3; i++) {
            x.terms(i, terms[i]);
        }
        for (int grace = 0; grace < 3; grace++) {
            x.put(1, 1);
            x.drop(1);
            x.begin();
            x.hurry();
        }
        for (int key = 0; key < 18; key++) {
            x.put(key, key);
        }
        x.drop(0);
        x.begin();
        for (int key = 1; key < 3; key++) {
            x.drop(key);
        }
        for (int i = 0; i < 6; i++) {
            x.seen(0, 0);
        }
        Feeder.feed(x, "abcdefghij");
        int[] due = {15, 2, 1, 4, 1, 42 * 21, 6, 5, 16, 10, 0, 0, 0, 0, 0, 4, 26, 8, 7};
        for (int i = 0; i < due.length; i++) {
            c.due("count(" + i + ")", x.count(i), due[i]);
        }
    }

    // ---- 44

    private static void refused(Check c, GraceTree x, String call, ToIntFunction<GraceTree> act, int by) {
        // not refused itself, so that status() can't be left from a call ahead of it
        x.forget();
        x.seen(0, 0);
        c.due("status() ahead of " + call, x.status(), 0);
        c.due(call, act.applyAsInt(x), by);
        c.due("status() behind " + call, x.status(), by);
    }

    /** "What the latest call ... was REFUSED by": each call that it knows, by each number that it can tell. */
    static void promise44EachCallRefused(Check c) {
        GraceTree x = Stands.full();
        refused(c, x, "terms", y -> y.terms(0, 1000), -1);
        refused(c, x, "row", GraceTree::row, -6);
        refused(c, x, "law", GraceTree::law, -6);
        refused(c, x, "orders", GraceTree::orders, -6);
        refused(c, x, "orders", y -> Feeder.orders(y, "begin"), -3);
        refused(c, x, "force", y -> y.force(0), -2);
        refused(c, x, "put", y -> y.put(100, 0), -1);
        refused(c, x, "put", y -> y.put(99, 0), -5);
        refused(c, x, "drop", y -> y.drop(100), -1);
        refused(c, x, "drop", y -> y.drop(99), -3);
        refused(c, x, "enter", y -> y.enter(8), -1);
        refused(c, x, "step", y -> y.step(8), -1);
        refused(c, x, "step", y -> y.step(0), -3);
        refused(c, x, "park", y -> y.park(8), -1);
        refused(c, x, "park", y -> y.park(0), -3);
        refused(c, x, "leave", y -> y.leave(8), -1);
        refused(c, x, "leave", y -> y.leave(0), -3);
        refused(c, x, "tick", y -> y.tick(8), -1);
        refused(c, x, "begin", GraceTree::begin, -3);
        refused(c, x, "hurry", GraceTree::hurry, -3);
        refused(c, x, "seen", y -> y.seen(3, 0), -1);
        refused(c, x, "days", y -> y.days(0, 0), -1);
        refused(c, x, "image", y -> y.image(2), -1);
        refused(c, x, "back", y -> y.back(2), -1);
        refused(c, x, "back", y -> y.back(0), -2);
        x.enter(0);
        refused(c, x, "enter", y -> y.enter(0), -3);
        refused(c, x, "tick", y -> y.tick(0), -3);
        x.terms(0, 0);
        refused(c, x, "undo", GraceTree::undo, -3);
        for (int i = 0; i < 6; i++) {
            Feeder.law(x, "bars");
        }
        refused(c, x, "law", y -> Feeder.law(y, "bars"), -5);
        x.force(0);
        refused(c, x, "put", y -> y.put(1, 1), -3);
        for (int i = 0; i < 5; i++) {
            x.seen(0, 0);
        }
        c.due("status() ahead of seen", x.status(), 0);
        c.due("seen", x.seen(0, 0), -5);
        c.due("status() behind seen", x.status(), -5);
    }
}
