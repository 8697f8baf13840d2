import java.lang.management.ManagementFactory;

/** The room of a run: rows are made once, calls make next to nothing; and 512 calls of each kind end. */
public final class RoomTest {
    private static final Check CHECK = new Check("RoomTest");
    private static final int CALLS = 512;

    public static void main(String[] args) {
        com.sun.management.ThreadMXBean bean =
            (com.sun.management.ThreadMXBean) ManagementFactory.getThreadMXBean();
        long id = Thread.currentThread().getId();
        dearCalls();
        bean.getThreadAllocatedBytes(id);
        long before = bean.getThreadAllocatedBytes(id);
        GraceTree one = new GraceTree();
        long made = bean.getThreadAllocatedBytes(id) - before;
        CHECK.due("new", one.count(0), 0);
        CHECK.so("a new object takes " + made + " bytes", made < 100_000);
        before = bean.getThreadAllocatedBytes(id);
        dearCalls();
        long used = bean.getThreadAllocatedBytes(id) - before;
        CHECK.so("all the dear calls take " + used + " bytes", used < 2_000_000);
        CHECK.report();
    }

    /** Objects used for 512 calls, of the kinds that could make most. */
    private static void dearCalls() {
        GraceTree x = new GraceTree();
        x.put(1, 1);
        x.put(1, 2);
        x.begin();
        for (int i = 0; i < CALLS / 8; i++) {
            x.days(i, 60);
            x.few(20, 99);
            x.image(i % 2);
            x.undo();
            x.put(i % 100, 5);
            x.hurry();
            x.ask(0);
            x.reach(3);
        }
        GraceTree y = new GraceTree();
        for (int i = 0; i < CALLS / 4; i++) {
            // "tick 0 times 20;tick 0 times 20"
            y.feed(1953063787, 540024948, 1768777075, 540160059, 1953063787);
            y.feed(540024948, 1768777075, 540160032, 538976288, 538976288);
            CHECK.due("orders()", y.orders(), 40);
            y.count(8);
        }
        GraceTree z = new GraceTree();
        z.image(0);
        for (int i = 0; i < CALLS / 4; i++) {
            // "costs 7;costs 8;bars"
            z.feed(1668248436, 1931491131, 1668248436, 1931491387, 1650553459);
            CHECK.due("law()", z.law(), 0);
            z.back(0);
            z.force(0);
        }
    }
}
