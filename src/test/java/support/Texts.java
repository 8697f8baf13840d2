import java.util.Random;

/** Draws TEXTS of both languages, most of them right, some spoilt. */
final class Texts {
    private static final String[] LAW_WORDS = {"node", "level", "child", "many", "key", "time", "mood"};
    private static final String[] ORDER_WORDS = {"time", "done", "latest", "waits", "graces", "at", "value"};
    private static final String[] PROCESSOR_VERBS = {"enter", "step", "park", "leave", "tick", "tick"};
    private static final String[] TOKENS = {"costs", "bars", "if", "node", "level", "child", "many", "key", "time",
        "mood", "put", "as", "drop", "enter", "step", "park", "leave", "tick", "begin", "times", "done", "latest",
        "waits", "graces", "at", "value", "and", "or", "not", "(", ")", "[", "]", "<", ">", "=", "+", "-", "*", "/",
        "%", ";", "0", "1", "7", "8", "20", "21", "99", "100", "1000", "1001", "hurry", "x", "?", "\t", "A", "0007"};

    private final Random random;
    private boolean orders;

    Texts(Random random) {
        this.random = random;
    }

    String law() {
        orders = false;
        int clauses = clauses();
        StringBuilder b = new StringBuilder();
        for (int i = 0; i < clauses; i++) {
            b.append(i > 0 ? ";" : "");
            b.append(random.nextInt(3) > 0 ? join("costs", sum(2)) : "bars");
            if (random.nextInt(3) > 0 || b.toString().endsWith("bars")) {
                b.append(join("", "if", test(2)));
            }
        }
        return spoilt(b.toString());
    }

    String orders() {
        orders = true;
        int clauses = clauses();
        StringBuilder b = new StringBuilder();
        for (int i = 0; i < clauses; i++) {
            b.append(i > 0 ? " ; " : "").append(order());
            if (random.nextInt(4) == 0) {
                b.append(join("", "times", String.valueOf(1 + random.nextInt(random.nextInt(8) == 0 ? 22 : 6))));
            }
            if (random.nextInt(3) == 0) {
                b.append(join("", "if", test(2)));
            }
        }
        return spoilt(b.toString());
    }

    private int clauses() {
        return random.nextInt(12) == 0 ? 11 + random.nextInt(3) : 1 + random.nextInt(4);
    }

    private String order() {
        int kind = random.nextInt(9);
        if (kind < 3) {
            return join("put", key(), "as", random.nextInt(3) == 0 ? sum(1) : String.valueOf(random.nextInt(1000)));
        }
        if (kind == 3) {
            return join("drop", key());
        }
        if (kind == 4) {
            return "begin";
        }
        return join(PROCESSOR_VERBS[random.nextInt(6)],
            random.nextInt(3) == 0 ? "done % 8" : String.valueOf(random.nextInt(8)));
    }

    private String key() {
        return random.nextInt(3) == 0 ? sum(1) : String.valueOf(random.nextInt(10));
    }

    private String join(String... some) {
        StringBuilder b = new StringBuilder();
        for (int i = 0; i < some.length; i++) {
            b.append(i > 0 ? " " : "").append(some[i]);
        }
        return b.toString();
    }

    private String test(int depth) {
        int kind = random.nextInt(7);
        if (depth > 0 && kind == 0) {
            return join("not", random.nextInt(6) == 0 ? "not" : "", "(", test(depth - 1), ")");
        }
        if (depth > 0 && kind == 1) {
            return test(depth - 1) + " and " + test(depth - 1);
        }
        if (depth > 0 && kind == 2) {
            return test(depth - 1) + " or " + test(depth - 1);
        }
        if (depth > 0 && kind == 3) {
            return "(" + test(depth - 1) + ")";
        }
        return sum(depth) + "<>=".charAt(random.nextInt(3)) + sum(depth);
    }

    private String sum(int depth) {
        StringBuilder b = new StringBuilder(part(depth));
        for (int i = random.nextInt(3); i > 0; i--) {
            b.append("+-*/%".charAt(random.nextInt(5))).append(part(depth));
        }
        return b.toString();
    }

    private String part(int depth) {
        if (depth > 0 && random.nextInt(6) == 0) {
            return "[" + sum(depth - 1) + "]";
        }
        if (random.nextInt(2) == 0) {
            int big = random.nextInt(8);
            return String.valueOf(big == 0 ? random.nextInt(1002) : big == 1 ? 1000 : random.nextInt(10));
        }
        String word = orders ? ORDER_WORDS[random.nextInt(7)] : LAW_WORDS[random.nextInt(7)];
        if (word.equals("at")) {
            return " at " + random.nextInt(8);
        }
        return word.equals("value") ? " value " + random.nextInt(10) : " " + word + " ";
    }

    private String spoilt(String text) {
        if (random.nextInt(3) > 0 || text.isEmpty()) {
            return text;
        }
        int at = random.nextInt(text.length() + 1);
        int kind = random.nextInt(5);
        String token = TOKENS[random.nextInt(TOKENS.length)];
        if (kind == 0) {
            return text.substring(0, at);
        }
        if (kind == 1) {
            return text.substring(0, at) + " " + token + " " + text.substring(at);
        }
        if (kind == 2) {
            return text.substring(0, at) + text.substring(Math.min(text.length(), at + 1 + random.nextInt(4)));
        }
        return kind == 3 ? text + " ".repeat(random.nextInt(3)) + token : text.substring(0, at) + token;
    }

    /** A row of tokens with no sense, mostly. */
    String noise() {
        StringBuilder b = new StringBuilder();
        for (int i = random.nextInt(12); i > 0; i--) {
            b.append(TOKENS[random.nextInt(TOKENS.length)]).append(random.nextInt(3) == 0 ? "" : " ");
        }
        return b.toString();
    }
}
