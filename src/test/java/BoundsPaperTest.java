/** Boundary cases of promises 28 to 32, 37, 39, 40, one by one: what is told on paper. */
public final class BoundsPaperTest {
    private static final int MIN = Integer.MIN_VALUE;
    private static final int MAX = Integer.MAX_VALUE;
    private static final long WHOLE = 1_000_000_000_000L;

    public static void main(String[] args) {
        Cases.run(BoundsPaperTest.class);
    }

    private static GraceTree losing(int losses) {
        GraceTree x = new GraceTree();
        x.terms(1, losses);
        return x;
    }

    // ---- 28: sees

    /** "NONE (not so many; OUT; others)". */
    static void promise28OneThatIsOut(Check c) {
        GraceTree x = Stands.keys(4);
        c.due("never in", x.sees(0, 0), -1);
        x.enter(0);
        x.leave(0);
        c.due("out again", x.sees(0, 0), -1);
    }

    static void promise28AtTheEnd(Check c) {
        GraceTree x = Stands.keys(4);
        x.enter(0);
        x.step(0);
        c.due("sees(0, 0)", x.sees(0, 0), -1);
    }

    static void promise28NotSoMany(Check c) {
        GraceTree x = Stands.keys(4, 6);
        x.enter(0);
        c.due("its own", x.sees(0, 0), 0);
        c.due("the last", x.sees(0, 1), 1);
        c.due("one more", x.sees(0, 2), -1);
        c.due("sees(0, MAX)", x.sees(0, MAX), -1);
    }

    static void promise28PlaceTooSmall(Check c) {
        GraceTree x = Stands.keys(4, 6);
        x.enter(0);
        c.due("sees(0, -1)", x.sees(0, -1), -1);
        c.due("sees(0, MIN)", x.sees(0, MIN), -1);
    }

    static void promise28NoSuchProcessor(Check c) {
        GraceTree x = Stands.keys(4, 6);
        for (int p = 0; p < 8; p++) {
            x.enter(p);
        }
        c.due("sees(7, 0)", x.sees(7, 0), 0);
        for (int p : new int[] {-1, 8, 32, MIN, MAX}) {
            c.due("sees(" + p + ", 0)", x.sees(p, 0), -1);
        }
    }

    static void promise28AllCells(Check c) {
        GraceTree x = Stands.full();
        x.enter(0);
        c.due("the last", x.sees(0, 23), 23);
        c.due("one more", x.sees(0, 24), -1);
        c.due("far more", x.sees(0, 25), -1);
    }

    static void promise28ThroughOldCells(Check c) {
        GraceTree x = Stands.keys(4, 6, 8);
        x.enter(0);
        x.drop(4);
        x.drop(6);
        x.put(8, 1);
        c.due("its own, old", x.sees(0, 0), 0);
        c.due("old", x.sees(0, 1), 1);
        c.due("the old one's next stays", x.sees(0, 2), 2);
        c.due("not so many", x.sees(0, 3), -1);
        x.enter(1);
        c.due("one that came later sees the list", x.sees(1, 0), 3);
    }

    // ---- 29: reach

    static void promise29NoSuchCell(Check c) {
        GraceTree x = Stands.full();
        x.enter(0);
        c.due("reach(23)", x.reach(23), 1);
        for (int cell : new int[] {-1, 24, MIN, MAX}) {
            c.due("reach(" + cell + ")", x.reach(cell), -1);
        }
    }

    /** "0 of a FREE one". */
    static void promise29AFreeCell(Check c) {
        GraceTree x = Stands.keys(4);
        x.enter(0);
        c.due("never used", x.reach(1), 0);
        GraceTree y = Stands.grace();
        y.hurry();
        y.enter(0);
        c.due("free again", y.reach(0), 0);
    }

    static void promise29NobodyAndEverybody(Check c) {
        GraceTree x = Stands.keys(4);
        c.due("nobody", x.reach(0), 0);
        for (int p = 0; p < 8; p++) {
            x.enter(p);
        }
        c.due("everybody", x.reach(0), 255);
        x.step(0);
        c.due("not one at the end", x.reach(0), 254);
        x.leave(7);
        c.due("not one that is out", x.reach(0), 126);
        x.park(6);
        c.due("one that is parked, too", x.reach(0), 126);
    }

    static void promise29NotThoseBehindIt(Check c) {
        GraceTree x = Stands.keys(4, 6);
        x.enter(0);
        x.enter(1);
        x.step(1);
        c.due("the first cell", x.reach(0), 1);
        c.due("the last cell", x.reach(1), 3);
    }

    static void promise29AnOldCell(Check c) {
        GraceTree x = Stands.keys(4, 6);
        x.enter(0);
        x.drop(4);
        x.enter(1);
        c.due("who was there", x.reach(0), 1);
        c.due("both come to the live one", x.reach(1), 3);
    }

    // ---- 30: holders

    /** "0, if none RUNS". */
    static void promise30NoneRuns(Check c) {
        GraceTree x = Stands.waiting();
        x.enter(0);
        x.park(0);
        x.enter(1);
        c.due("ahead of any", x.holders(), 0);
        GraceTree y = Stands.grace();
        y.hurry();
        c.due("behind one", y.holders(), 0);
    }

    static void promise30AllAtFirstOneAtLast(Check c) {
        c.due("all", Stands.grace().holders(), 255);
        c.due("the last processor", Stands.graceButSeven().holders(), 128);
    }

    static void promise30AHeldOneThatReported(Check c) {
        GraceTree x = Stands.waiting();
        x.enter(0);
        x.park(0);
        x.begin();
        x.hurry();
        c.due("holders()", x.holders(), 1);
    }

    static void promise30NotOneThatCameBehindItsReport(Check c) {
        GraceTree x = Stands.graceButSeven();
        x.enter(0);
        x.enter(1);
        x.park(1);
        c.due("holders()", x.holders(), 128);
    }

    // ---- 31: why

    /** "NONE (not so many; none RUNS)". */
    static void promise31NoneRuns(Check c) {
        GraceTree x = Stands.waiting();
        c.due("ahead of any", x.why(0), -1);
        GraceTree y = Stands.grace();
        y.hurry();
        c.due("behind one", y.why(0), -1);
        c.due("why(3)", y.why(3), -1);
    }

    static void promise31NotSoMany(Check c) {
        GraceTree x = Stands.grace();
        c.due("the last", x.why(3), 10);
        c.due("why(4)", x.why(4), -1);
        c.due("why(MAX)", x.why(MAX), -1);
    }

    static void promise31PlaceTooSmall(Check c) {
        GraceTree x = Stands.grace();
        c.due("the first", x.why(0), 1);
        c.due("why(-1)", x.why(-1), -1);
        c.due("why(MIN)", x.why(MIN), -1);
    }

    private static void whyIs(Check c, GraceTree x, int... row) {
        for (int i = 0; i < row.length; i++) {
            c.due("why(" + i + ")", x.why(i), row[i]);
        }
    }

    /** "its lower CHILD that has not REPORTED", "the lower PROCESSOR that has not REPORTED". */
    static void promise31TheLowerOne(Check c) {
        int[][] rows = {{1, 2, 4, 10}, {1, 2, 4, 11}, {1, 2, 5, 12}, {1, 2, 5, 13}, {1, 3, 6, 14}, {1, 3, 6, 15},
            {1, 3, 7, 16}, {1, 3, 7, 17}};
        GraceTree x = Stands.grace();
        for (int p = 0; p < 8; p++) {
            whyIs(c, x, rows[p]);
            x.tick(p);
        }
        c.due("none runs", x.why(0), -1);
    }

    /** "else the lower HELD READER". */
    static void promise31TheLowerHeldReader(Check c) {
        GraceTree x = Stands.waiting();
        for (int p = 0; p < 8; p++) {
            x.enter(p);
            x.park(p);
        }
        x.begin();
        whyIs(c, x, 1, 2, 4, 10);
        x.hurry();
        int[] leaves = {4, 4, 5, 5, 6, 6, 7, 7};
        for (int p = 0; p < 8; p++) {
            whyIs(c, x, 1, p < 4 ? 2 : 3, leaves[p], 20 + p);
            x.leave(p);
        }
        c.due("none runs", x.why(0), -1);
    }

    static void promise31AProcessorAheadOfALowerHeldReader(Check c) {
        GraceTree x = Stands.grace();
        x.enter(0);
        x.park(0);
        x.tick(0);
        c.due("processor 1", x.why(3), 11);
        x.tick(1);
        c.due("reader 0", x.why(3), 20);
    }

    // ---- 32: least

    /** "NONE (none RUNS)". */
    static void promise32NoneRuns(Check c) {
        c.due("ahead of any", Stands.waiting().least(), -1);
        GraceTree x = Stands.grace();
        x.hurry();
        c.due("behind one", x.least(), -1);
    }

    static void promise32FromSixteenToOne(Check c) {
        GraceTree x = Stands.waiting();
        for (int p = 0; p < 8; p++) {
            x.enter(p);
        }
        x.begin();
        c.due("all are in", x.least(), 16);
        c.due("one to go", Stands.graceButSeven().least(), 1);
        c.due("all are out", Stands.grace().least(), 8);
    }

    /** "to LEAVE for each HELD READER". */
    static void promise32HeldReaders(Check c) {
        GraceTree x = Stands.waiting();
        x.enter(3);
        x.park(3);
        x.begin();
        c.due("to tick eight times and to leave", x.least(), 9);
        x.hurry();
        c.due("to leave", x.least(), 1);
        x.leave(3);
        c.due("none runs", x.least(), -1);
    }

    /** "for each that is IN, not PARKED at a PROCESSOR that has not REPORTED". */
    static void promise32NotOneThatCameBehindItsReport(Check c) {
        GraceTree x = Stands.graceButSeven();
        x.enter(0);
        x.enter(1);
        x.park(1);
        c.due("to tick", x.least(), 1);
        x.enter(7);
        c.due("to leave and to tick", x.least(), 2);
        x.park(7);
        c.due("to tick and to leave", x.least(), 2);
    }

    // ---- 37: few

    /** "k 1 .. 20". */
    static void promise37KFrom1To20(Check c) {
        GraceTree x = losing(10);
        c.due("few(1, 0)", x.few(1, 0), WHOLE);
        c.due("few(1, 1)", x.few(1, 1), 0);
        c.due("few(20, 19)", x.few(20, 19), WHOLE);
        c.due("few(20, 20)", x.few(20, 20), 0);
        c.due("few(19, 19)", x.few(19, 19), 0);
    }

    static void promise37KTooSmall(Check c) {
        GraceTree x = new GraceTree();
        c.due("few(0, 5)", x.few(0, 5), -1);
        c.due("few(-1, 5)", x.few(-1, 5), -1);
        c.due("few(MIN, 5)", x.few(MIN, 5), -1);
    }

    static void promise37KTooLarge(Check c) {
        GraceTree x = new GraceTree();
        c.due("few(21, 5)", x.few(21, 5), -1);
        c.due("few(MAX, 5)", x.few(MAX, 5), -1);
    }

    /** "n 0 .. 99". */
    static void promise37NFrom0To99(Check c) {
        GraceTree x = new GraceTree();
        c.due("few(1, 0)", x.few(1, 0), WHOLE);
        c.due("few(20, 0)", x.few(20, 0), WHOLE);
        c.due("few(1, 99)", x.few(1, 99), 29_512_660L);
        c.due("few(20, 99)", x.few(20, 99), 998_255_635_351L);
    }

    static void promise37NTooSmall(Check c) {
        GraceTree x = new GraceTree();
        c.due("few(1, -1)", x.few(1, -1), -1);
        c.due("few(1, MIN)", x.few(1, MIN), -1);
    }

    static void promise37NTooLarge(Check c) {
        GraceTree x = new GraceTree();
        c.due("few(1, 100)", x.few(1, 100), -1);
        c.due("few(1, MAX)", x.few(1, MAX), -1);
    }

    /** LOSSES 0: none is lost; 10: all are. */
    static void promise37LossesAtTheirEnds(Check c) {
        GraceTree x = losing(0);
        c.due("none is lost", x.few(1, 99), WHOLE);
        c.due("none is lost", x.few(20, 99), WHOLE);
        GraceTree y = losing(10);
        c.due("all are, fewer than five of five", y.few(5, 5), 0);
        c.due("all are, fewer than six of five", y.few(6, 5), WHOLE);
        c.due("all are, of 99", y.few(20, 99), 0);
    }

    /** "fewer than k are": not k of them. */
    static void promise37FewerThanK(Check c) {
        GraceTree x = new GraceTree();
        c.due("none of one", x.few(1, 1), 900_000_000_000L);
        c.due("one at most of one", x.few(2, 1), WHOLE);
        c.due("none of two", x.few(1, 2), 810_000_000_000L);
        c.due("one at most of two", x.few(2, 2), 990_000_000_000L);
        c.due("two at most of two", x.few(3, 2), WHOLE);
    }

    /** "both cut": each of the two, ahead of being put together. */
    static void promise37BothAreCut(Check c) {
        GraceTree x = new GraceTree();
        c.due("nothing to cut", x.few(1, 12), 282_429_536_481L);
        c.due("cut", x.few(1, 13), 254_186_582_832L);
        c.due("cut apart", losing(3).few(5, 20), 237_507_778_853L);
        c.due("cut apart", losing(5).few(20, 19), 999_999_999_958L);
        c.due("cut to next to nothing", losing(5).few(20, 99), 200);
        c.due("cut to nothing", losing(5).few(1, 99), 0);
    }

    static void promise37NoneIsNoRefusal(Check c) {
        GraceTree x = new GraceTree();
        x.few(0, 0);
        x.few(1, 100);
        c.due("status()", x.status(), 0);
        c.due("count(10)", x.count(10), 0);
    }

    static void promise37OneCallLeavesNothingToTheNext(Check c) {
        GraceTree x = new GraceTree();
        x.few(20, 99);
        c.due("few(2, 2)", x.few(2, 2), 990_000_000_000L);
        c.due("few(20, 0)", x.few(20, 0), WHOLE);
    }

    // ---- 39: days. The first DRAWS of SEED 0 are 1, 5, 7; of 2: 7, 4, 6; of 4: 5, 4, 5; of 5: 4, 4, 0;
    // of 7: 2, 3, 8; of 28: 5, 5, 1; of 353: 0, 0, 0; of 802: 7, 5, 0

    /** IV: "the SEED (0 .. 1,000,000)". */
    static void promise39SeedsFrom0To1000000(Check c) {
        GraceTree x = Stands.waiting();
        c.due("days(0, 1): one begins", x.days(0, 1), 0);
        c.due("status()", x.status(), 0);
        c.due("drawn(0)", x.drawn(0), 2);
        c.due("days(1000000, 1)", x.days(1_000_000, 1), 0);
        c.due("status()", x.status(), 0);
    }

    static void promise39SeedTooSmall(Check c) {
        Refusal.due(c, "days(-1, 1)", GraceTree::new, x -> x.days(-1, 1), -1);
        Refusal.due(c, "days(MIN, 1)", GraceTree::new, x -> x.days(MIN, 1), -1);
    }

    static void promise39SeedTooLarge(Check c) {
        Refusal.due(c, "days(1000001, 1)", GraceTree::new, x -> x.days(1_000_001, 1), -1);
        Refusal.due(c, "days(MAX, 1)", GraceTree::new, x -> x.days(MAX, 1), -1);
    }

    /** IV: "n 1 .. 60". */
    static void promise39From1To60Days(Check c) {
        GraceTree x = new GraceTree();
        c.due("days(5, 1)", x.days(5, 1), 0);
        c.due("one put", x.drawn(0), 1);
        c.so("days(5, 60)", x.days(5, 60) >= 0);
        c.due("status()", x.status(), 0);
    }

    /** Neither one day less nor one more: the last of them is done, the next one is not. */
    static void promise39JustSoManyDays(Check c) {
        boolean lastShows = false;
        boolean nextShows = false;
        for (int seed = 0; seed < 40; seed++) {
            for (int n : new int[] {1, 2, 60}) {
                GraceTree paper = new GraceTree();
                GraceTree hand = new GraceTree();
                Days.byHand(hand, seed, n);
                c.due("days(" + seed + ", " + n + ")", paper.days(seed, n), hand.count(3) - hand.count(4));
                c.same("drawn behind days(" + seed + ", " + n + ")", Days.drawn(paper), Days.kinds(hand));
                if (n == 60) {
                    lastShows |= !kindsBehind(seed, 59).equals(Days.kinds(hand));
                    nextShows |= !kindsBehind(seed, 61).equals(Days.kinds(hand));
                }
            }
        }
        c.so("some seed shows the last day, some the next one", lastShows && nextShows);
    }

    private static String kindsBehind(int seed, int n) {
        GraceTree x = new GraceTree();
        Days.byHand(x, seed, n);
        return Days.kinds(x);
    }

    static void promise39NoDay(Check c) {
        Refusal.due(c, "days(5, 0)", GraceTree::new, x -> x.days(5, 0), -1);
        Refusal.due(c, "days(5, -1)", GraceTree::new, x -> x.days(5, -1), -1);
        Refusal.due(c, "days(5, MIN)", GraceTree::new, x -> x.days(5, MIN), -1);
    }

    static void promise39TooManyDays(Check c) {
        Refusal.due(c, "days(5, 61)", GraceTree::new, x -> x.days(5, 61), -1);
        Refusal.due(c, "days(5, MAX)", GraceTree::new, x -> x.days(5, MAX), -1);
    }

    /** "0: the KEY that is the second is PUT with the first as VALUE". */
    static void promise39APut(Check c) {
        GraceTree x = Stands.keys(5, 7);
        x.days(802, 1);
        c.due("the copy of key 5", x.drawn(0), 2);
        c.due("key 7 stays", x.drawn(1), 1);
        c.due("the new cell", x.drawn(2), 1);
        GraceTree y = new GraceTree();
        y.days(353, 1);
        c.due("key 0, value 0", y.drawn(0), 1);
    }

    /** "1: it is DROPPED". */
    static void promise39ADrop(Check c) {
        GraceTree x = Stands.keys(4, 5);
        x.days(28, 1);
        c.due("key 4", x.drawn(0), 1);
        c.due("key 5", x.drawn(1), 2);
    }

    /** "5: LEAVES": of a READER that is HELD alone. */
    static void promise39ALeave(Check c) {
        GraceTree x = Stands.waiting();
        x.enter(5);
        x.park(5);
        x.begin();
        x.hurry();
        c.due("days(4, 1)", x.days(4, 1), 1);
        c.due("drawn(0)", x.drawn(0), 0);
    }

    /** "6: that PROCESSOR TICKS". */
    static void promise39ATick(Check c) {
        GraceTree x = Stands.graceButSeven();
        c.due("days(2, 1)", x.days(2, 1), 1);
        c.due("drawn(0)", x.drawn(0), 0);
        c.due("on paper", x.count(4), 1);
    }

    /** "7: one BEGINS". */
    static void promise39ABegin(Check c) {
        GraceTree x = Stands.waiting();
        c.due("days(0, 1)", x.days(0, 1), 0);
        c.due("on paper", x.count(3), 0);
    }

    /** "8: one is HURRIED". */
    static void promise39AHurry(Check c) {
        GraceTree x = Stands.grace();
        c.due("days(7, 1)", x.days(7, 1), 1);
        c.due("drawn(0)", x.drawn(0), 0);
        c.due("on paper", x.cell(0, 0), 2);
    }

    /** "each if it can be", "whatever comes of them". */
    static void promise39WhatCannotBeIsPassedOver(Check c) {
        GraceTree x = new GraceTree();
        for (int seed : new int[] {0, 2, 4, 7, 28}) {
            c.due("days(" + seed + ", 1)", x.days(seed, 1), 0);
            c.due("status()", x.status(), 0);
            c.due("drawn(0)", x.drawn(0), 0);
        }
        c.due("no call was refused", x.count(10) + x.count(12) + x.count(13), 0);
        GraceTree y = Stands.law("bars");
        y.days(5, 1);
        c.due("a barred key", y.drawn(0), 0);
        GraceTree z = Stands.full();
        c.due("no room", z.days(5, 1), 0);
        c.due("drawn(4)", z.drawn(4), 1);
    }

    /** "s becomes (s times 1103 and 12345) modulo 1,000,003": at 0 and at 1,000,002. */
    static void promise39TheDrawAtItsEnds(Check c) {
        GraceTree x = Stands.grace();
        // s: 1,000,002 first, so the DRAWS are 2, 4, 8
        c.due("days(327279, 1)", x.days(327_279, 1), 1);
        // s: 0 first, so the DRAWS are 0, 3, 2, then 1, 1, 6
        c.due("days(870345, 2)", x.days(870_345, 2), 0);
    }

    /** "how many GRACES ended in them, by whatever": not those ahead of them, not one that RUNS. */
    static void promise39OnlyGracesThatEndedInThem(Check c) {
        GraceTree x = Stands.grace();
        x.hurry();
        x.put(2, 2);
        x.drop(2);
        c.due("one begins, none ends", x.days(0, 1), 0);
        GraceTree y = Stands.graceButSeven();
        y.put(2, 2);
        y.drop(2);
        c.due("one ends, the next one begins", y.days(2, 1), 1);
        c.due("the next one's cell", y.drawn(1), 2);
    }

    static void promise39AllIsAsItWas(Check c) {
        GraceTree x = Stands.grace();
        x.enter(3);
        x.put(4, 4);
        String before = Refusal.tell(x).replaceAll("drawn:.*", "");
        x.days(12_345, 60);
        c.same("behind days()", Refusal.tell(x).replaceAll("drawn:.*", ""), before);
    }

    // ---- 40: drawn

    /** "NONE (ahead of any, too)". */
    static void promise40AheadOfAny(Check c) {
        GraceTree x = Stands.keys(4);
        for (int cell = -1; cell <= 24; cell++) {
            c.due("drawn(" + cell + ")", x.drawn(cell), -1);
        }
        x.days(-1, 1);
        c.due("behind a refused one alone", x.drawn(0), -1);
    }

    static void promise40NoSuchCell(Check c) {
        GraceTree x = Stands.full();
        x.days(1, 1);
        c.due("drawn(0)", x.drawn(0), 1);
        c.due("drawn(23)", x.drawn(23), 1);
        for (int cell : new int[] {-1, 24, MIN, MAX}) {
            c.due("drawn(" + cell + ")", x.drawn(cell), -1);
        }
    }

    /** "kept as the latest": a refused one leaves them. */
    static void promise40ARefusedOneLeavesThem(Check c) {
        GraceTree x = Stands.keys(5);
        x.days(28, 1);
        x.days(5, 61);
        c.due("drawn(0)", x.drawn(0), 2);
    }

    static void promise40TheLatest(Check c) {
        GraceTree x = Stands.keys(5);
        x.days(28, 1);
        c.due("dropped", x.drawn(0), 2);
        x.days(0, 1);
        c.due("from what stands anew", x.drawn(0), 1);
    }

    static void promise40LaterActsLeaveThem(Check c) {
        GraceTree x = Stands.keys(5);
        x.days(28, 1);
        x.put(6, 6);
        x.undo();
        x.terms(0, 5);
        c.due("drawn(0)", x.drawn(0), 2);
        c.due("drawn(1)", x.drawn(1), 0);
    }
}
