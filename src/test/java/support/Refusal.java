import java.util.function.Supplier;
import java.util.function.ToIntFunction;

/** A call that is REFUSED: its answer, status() and count(10) .. count(14) tell so, all else stays. */
final class Refusal {
    private static final int[] REASONS = {-1, -2, -3, -5, -6};

    private Refusal() {
    }

    static void due(Check c, String call, Supplier<GraceTree> stand, ToIntFunction<GraceTree> act, int by) {
        GraceTree x = stand.get();
        int[] counted = new int[REASONS.length];
        for (int i = 0; i < REASONS.length; i++) {
            counted[i] = x.count(10 + i);
        }
        String before = tell(x);
        c.due(call, act.applyAsInt(x), by);
        c.due("status() behind " + call, x.status(), by);
        for (int i = 0; i < REASONS.length; i++) {
            int more = REASONS[i] == by ? 1 : 0;
            c.due("count(" + (10 + i) + ") behind " + call, x.count(10 + i), counted[i] + more);
        }
        c.same("what stands behind " + call, tell(x), before);
    }

    /** All that stands but TAPE, FAULT and where ORDERS stopped: those a refused call may change. */
    static String tell(GraceTree x) {
        StringBuilder b = new StringBuilder();
        for (int p = 0; p < 8; p++) {
            b.append("p").append(p).append(':').append(x.of(p, 4));
            if (x.of(p, 0) == 1) {
                b.append(',').append(x.of(p, 1)).append(',').append(x.of(p, 2)).append(',').append(x.of(p, 3));
            }
            b.append(' ');
        }
        for (int c = 0; c < 24; c++) {
            int kind = x.cell(c, 0);
            if (kind != 0) {
                b.append("c").append(c).append(':').append(kind).append(',').append(x.cell(c, 1)).append(',');
                b.append(x.cell(c, 2)).append(',').append(x.cell(c, 3)).append(' ');
            }
        }
        for (int n = 1; n <= 7; n++) {
            b.append("n").append(n).append(':').append(x.node(n)).append(' ');
        }
        for (int what = 0; what <= 18; what++) {
            if (what <= 8 || what >= 15) {
                b.append("k").append(what).append(':').append(x.count(what)).append(' ');
            }
        }
        b.append("head:").append(x.list(0)).append(" tears:").append(x.tears());
        b.append(" can:").append(x.canBe()).append(" drawn:").append(x.drawn(0));
        return b.toString();
    }
}
