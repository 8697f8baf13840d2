import java.util.ArrayList;
import java.util.List;
import java.util.Map;

/** The two languages for the Model: TEXTS are read into trees. */
final class Lang {
    static final List<String> VERBS = List.of("put", "drop", "enter", "step", "park", "leave", "tick", "begin");
    static final List<String> LAW_WORDS = List.of("node", "level", "child", "many", "key", "time", "mood");
    static final List<String> ORDER_WORDS = List.of("time", "done", "latest", "waits", "graces");

    static final class Clause {
        String verb;
        List<Tree> sums = new ArrayList<>();
        int times = 1;
        Tree test;
    }

    static final class Tree {
        final String op;
        final Tree left;
        final Tree right;

        Tree(String op, Tree left, Tree right) {
            this.op = op;
            this.left = left;
            this.right = right;
        }

        long value(Map<String, Integer> words) {
            if (left == null) {
                return Character.isDigit(op.charAt(0)) ? Long.parseLong(op) : words.get(op);
            }
            long a = left.value(words);
            if (op.equals("not")) {
                return 1 - a;
            }
            if (op.equals("or") && a != 0 || op.equals("and") && a == 0) {
                return a;
            }
            long b = right.value(words);
            if ((op.equals("/") || op.equals("%")) && b == 0) {
                throw new Model.Broken();
            }
            long r = switch (op) {
                case "or", "and" -> b;
                case "<" -> a < b ? 1 : 0;
                case ">" -> a > b ? 1 : 0;
                case "=" -> a == b ? 1 : 0;
                case "+" -> a + b;
                case "-" -> a - b;
                case "*" -> a * b;
                case "/" -> a / b;
                default -> a % b;
            };
            if (Math.abs(r) > 1000000000L) {
                throw new Model.Broken();
            }
            return r;
        }
    }

    private final List<String> tokens = new ArrayList<>();
    private final List<Integer> starts = new ArrayList<>();
    private final boolean orders;
    private int i = 0;
    private int parts = 0;
    private int depth = 0;

    private Lang(byte[] text, boolean orders) {
        this.orders = orders;
        int at = 0;
        while (at < text.length) {
            int to = at + 1;
            int kind = kind(text[at]);
            while (kind > 0 && to < text.length && kind(text[to]) == kind) {
                to++;
            }
            if (text[at] != ' ') {
                StringBuilder token = new StringBuilder();
                for (int j = at; j < to; j++) {
                    token.append((char) (text[j] & 255));
                }
                tokens.add(token.toString());
                starts.add(at);
            }
            at = to;
        }
        tokens.add("");
        starts.add(text.length);
    }

    private static int kind(byte b) {
        return b >= 'a' && b <= 'z' ? 1 : b >= '0' && b <= '9' ? 2 : 0;
    }

    static Clause[] read(byte[] text, boolean orders) {
        Lang lang = new Lang(text, orders);
        List<Clause> clauses = new ArrayList<>();
        do {
            if (clauses.size() == 12) {
                throw lang.fault();
            }
            clauses.add(lang.clause());
        } while (lang.have(";"));
        if (!lang.now().isEmpty()) {
            throw lang.fault();
        }
        return clauses.toArray(new Clause[0]);
    }

    private String now() {
        return tokens.get(i);
    }

    private Model.Fault fault() {
        return new Model.Fault(starts.get(i));
    }

    private boolean have(String... some) {
        for (String one : some) {
            if (now().equals(one)) {
                i++;
                return true;
            }
        }
        return false;
    }

    private void need(String token) {
        if (!have(token)) {
            throw fault();
        }
    }

    private int number(int least, int most) {
        if (!now().matches("[0-9]+") || now().replaceFirst("^0+", "").length() > 6
            || Integer.parseInt(now()) < least || Integer.parseInt(now()) > most) {
            throw fault();
        }
        return Integer.parseInt(tokens.get(i++));
    }

    private Clause clause() {
        Clause c = new Clause();
        c.verb = now();
        if (orders ? !VERBS.contains(c.verb) : !c.verb.equals("costs") && !c.verb.equals("bars")) {
            throw fault();
        }
        i++;
        if (!c.verb.equals("bars") && !c.verb.equals("begin")) {
            c.sums.add(sum());
        }
        if (c.verb.equals("put")) {
            need("as");
            c.sums.add(sum());
        }
        if (orders && have("times")) {
            c.times = number(1, 20);
        }
        if (have("if")) {
            c.test = test();
        }
        return c;
    }

    private Tree test() {
        Tree t = both();
        while (have("or")) {
            t = new Tree("or", t, both());
        }
        return t;
    }

    private Tree both() {
        Tree t = plain();
        while (have("and")) {
            t = new Tree("and", t, plain());
        }
        return t;
    }

    private void open(String bracket) {
        if (depth == 8) {
            throw fault();
        }
        need(bracket);
        depth++;
    }

    private void close(String bracket) {
        need(bracket);
        depth--;
    }

    private Tree plain() {
        if (have("not")) {
            return new Tree("not", plain(), null);
        }
        if (now().equals("(")) {
            open("(");
            Tree t = test();
            close(")");
            return t;
        }
        Tree left = sum();
        String sign = now();
        if (!have("<", ">", "=")) {
            throw fault();
        }
        return new Tree(sign, left, sum());
    }

    private Tree sum() {
        Tree t = term();
        for (String sign = now(); have("+", "-"); sign = now()) {
            t = new Tree(sign, t, term());
        }
        return t;
    }

    private Tree term() {
        Tree t = part();
        for (String sign = now(); have("*", "/", "%"); sign = now()) {
            t = new Tree(sign, t, part());
        }
        return t;
    }

    private Tree part() {
        if (now().equals("[")) {
            open("[");
            Tree t = sum();
            close("]");
            return t;
        }
        if (parts == 50) {
            throw fault();
        }
        parts++;
        String word = now();
        if (orders && have("at", "value")) {
            return new Tree(word + number(0, word.equals("at") ? 7 : 99), null, null);
        }
        if ((orders ? ORDER_WORDS : LAW_WORDS).contains(word)) {
            i++;
            return new Tree(word, null, null);
        }
        return new Tree(String.valueOf(number(0, 1000)), null, null);
    }
}
