/** DAYS done by calls, one for each time, instead of on paper. */
final class Days {
    private static final int[] DRAWS = {8, 6, 9};

    private Days() {
    }

    static void byHand(GraceTree x, int seed, int n) {
        long s = seed;
        int[] got = new int[DRAWS.length];
        for (int i = 0; i < n; i++) {
            for (int j = 0; j < DRAWS.length; j++) {
                s = (s * 1103 + 12345) % 1_000_003;
                got[j] = (int) (s % DRAWS[j]);
            }
            once(x, got[0], got[1], got[2]);
        }
    }

    /** The lowest SEED whose days are these, each told by its first and its last DRAW; -1: any. */
    static int seedOf(int[]... days) {
        for (int seed = 0; seed <= 1_000_000; seed++) {
            long s = seed;
            boolean fits = true;
            for (int i = 0; i < days.length && fits; i++) {
                long[] got = new long[DRAWS.length];
                for (int j = 0; j < DRAWS.length; j++) {
                    s = (s * 1103 + 12345) % 1_000_003;
                    got[j] = s % DRAWS[j];
                }
                fits = (days[i][0] < 0 || got[0] == days[i][0]) && got[2] == days[i][1];
            }
            if (fits) {
                return seed;
            }
        }
        throw new IllegalStateException("no seed has such days");
    }

    /** Of each CELL whether FREE, LIVE, OLD, as it stands. */
    static String kinds(GraceTree x) {
        StringBuilder b = new StringBuilder();
        for (int cell = 0; cell < 24; cell++) {
            b.append(x.cell(cell, 0));
        }
        return b.toString();
    }

    /** The same behind the latest DAYS. */
    static String drawn(GraceTree x) {
        StringBuilder b = new StringBuilder();
        for (int cell = 0; cell < 24; cell++) {
            b.append(x.drawn(cell));
        }
        return b.toString();
    }

    private static void once(GraceTree x, int first, int second, int act) {
        switch (act) {
            case 0 -> x.put(second, first);
            case 1 -> x.drop(second);
            case 2 -> x.enter(first);
            case 3 -> x.step(first);
            case 4 -> x.park(first);
            case 5 -> x.leave(first);
            case 6 -> x.tick(first);
            case 7 -> x.begin();
            default -> x.hurry();
        }
    }
}
