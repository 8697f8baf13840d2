/** Counts answers that are not as due; a test ends by report(). */
final class Check {
    private final String name;
    private int calls = 0;
    private int wrong = 0;

    Check(String name) {
        this.name = name;
    }

    void due(String call, long got, long want) {
        calls++;
        if (got != want) {
            wrong++;
            System.out.println(name + ": " + call + " answered " + got + ", due is " + want);
        }
    }

    void so(String what, boolean holds) {
        due(what, holds ? 1 : 0, 1);
    }

    /** Two tellings of all that stands. */
    void same(String what, String got, String want) {
        calls++;
        if (!got.equals(want)) {
            wrong++;
            System.out.println(name + ": " + what + ":\n  is  " + got + "\n  due " + want);
        }
    }

    boolean failed() {
        return wrong > 0;
    }

    int lookedAt() {
        return calls;
    }

    void report() {
        System.out.println(name + ": " + calls + " answers looked at, " + wrong + " wrong");
        if (wrong > 0 || calls == 0) {
            System.exit(1);
        }
    }
}
