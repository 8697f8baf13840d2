import java.util.Random;

/** Runs of calls by draws, each answer compared with the Model's: all promises, 1 to 44. */
public final class ModelTest {
    private static final int RUNS = 1500;
    private static final int CALLS = 200;

    private final Check check;
    private final Random random;
    private final Texts texts;
    private final GraceTree tree = new GraceTree();
    private final Model model = new Model();
    private final StringBuilder told = new StringBuilder();

    private ModelTest(Check check, long seed) {
        this.check = check;
        random = new Random(seed);
        texts = new Texts(random);
    }

    public static void main(String[] args) {
        Check check = new Check("ModelTest");
        int runs = args.length > 0 ? Integer.parseInt(args[0]) : RUNS;
        for (int run = 0; run < runs && !check.failed(); run++) {
            ModelTest test = new ModelTest(check, run);
            for (int i = 0; i < CALLS && !check.failed(); i++) {
                test.once();
                test.compareCounts();
                if (i % 7 == 0) {
                    test.compareAll();
                }
            }
            if (check.failed()) {
                System.out.println("run " + run + ":" + test.told);
            }
        }
        check.report();
    }

    private void due(String call, long got, long want) {
        told.append(' ').append(call).append('=').append(got);
        check.due(call, got, want);
    }

    private int any() {
        int[] odd = {-1, -2, 8, 24, 100, 1000, Integer.MIN_VALUE, Integer.MAX_VALUE, 0, 99, 999, 6, 10, 11};
        return odd[random.nextInt(odd.length)];
    }

    private int mostly(int below) {
        return random.nextInt(20) == 0 ? any() : random.nextInt(below);
    }

    private void once() {
        int kind = random.nextInt(40);
        if (kind < 27) {
            act(kind);
        } else if (kind < 30) {
            text(kind);
        } else if (kind == 30) {
            due("undo", tree.undo(), model.undo());
        } else if (kind == 31) {
            rare();
        } else if (kind == 32) {
            int fact = mostly(3);
            int n = fact == 2 ? random.nextInt(10) : mostly(2);
            due("seen " + fact + " " + n, tree.seen(fact, n), model.seen(fact, n));
        } else if (kind == 33) {
            int law = mostly(4) - 1;
            due("force " + law, tree.force(law), model.force(law));
        } else if (kind == 34) {
            int seed = mostly(1000001);
            int n = mostly(60) + random.nextInt(2);
            due("days " + seed + " " + n, tree.days(seed, n), model.days(seed, n));
        } else if (kind == 35) {
            many();
        } else {
            act(6);
        }
    }

    private void act(int kind) {
        int p = mostly(8);
        int key = mostly(random.nextInt(4) == 0 ? 100 : 10);
        int value = mostly(1000);
        switch (kind % 9) {
            case 0 -> due("put " + key + " " + value, tree.put(key, value), model.doAct(0, key, value));
            case 1 -> due("drop " + key, tree.drop(key), model.doAct(1, key, 0));
            case 2 -> due("enter " + p, tree.enter(p), model.doAct(2, p, 0));
            case 3 -> due("step " + p, tree.step(p), model.doAct(3, p, 0));
            case 4 -> due("park " + p, tree.park(p), model.doAct(4, p, 0));
            case 5 -> due("leave " + p, tree.leave(p), model.doAct(5, p, 0));
            case 6 -> due("tick " + p, tree.tick(p), model.doAct(6, p, 0));
            case 7 -> due("begin", tree.begin(), model.doAct(7, 0, 0));
            default -> due("hurry", tree.hurry(), model.doAct(8, 0, 0));
        }
    }

    private void many() {
        for (int i = random.nextInt(12); i > 0; i--) {
            int key = random.nextInt(30);
            due("put " + key + " 5", tree.put(key, 5), model.doAct(0, key, 5));
        }
    }

    private void text(int kind) {
        boolean noise = random.nextInt(10) == 0;
        String text = kind == 27 ? texts.law() : texts.orders();
        text = noise ? texts.noise() : text;
        text = text.length() > 400 ? text.substring(0, 400) : text;
        feed(text.getBytes(java.nio.charset.StandardCharsets.ISO_8859_1));
        if (kind == 27) {
            due("law <" + text + ">", tree.law(), model.law());
        } else {
            due("orders <" + text + ">", tree.orders(), model.orders());
        }
        due("fault", tree.fault(), model.fault);
        due("stopped", tree.stopped(), model.stopped);
    }

    private void feed(byte[] bytes) {
        for (int i = 0; i < bytes.length; i += 20) {
            int[] f = new int[5];
            for (int j = 0; j < 20; j++) {
                f[j / 4] = f[j / 4] << 8 | (i + j < bytes.length ? bytes[i + j] & 255 : random.nextInt(256));
            }
            due("feed", tree.feed(f[0], f[1], f[2], f[3], f[4]), model.feed(f));
        }
        due("end", tree.end(bytes.length), model.end(bytes.length));
    }

    private void rare() {
        int k = mostly(2);
        switch (random.nextInt(6)) {
            case 0 -> due("image " + k, tree.image(k), model.image(k));
            case 1 -> due("back " + k, tree.back(k), model.back(k));
            case 2 -> due("forget", tree.forget(), model.forget());
            case 3 -> {
                int what = mostly(3);
                int value = mostly(random.nextInt(2) == 0 ? 11 : 1000);
                due("terms " + what + " " + value, tree.terms(what, value), model.terms(what, value));
            }
            case 4 -> {
                byte[] bytes = new byte[random.nextInt(30)];
                for (int i = 0; i < bytes.length; i++) {
                    bytes[i] = (byte) (i % 2 == 0 ? random.nextInt(120) : random.nextInt(256));
                }
                feed(bytes);
                due("row", tree.row(), model.row());
                due("tears", tree.tears(), model.tears);
            }
            default -> {
                int n = any();
                due("end " + n, tree.end(n), model.end(n));
            }
        }
    }

    private void compareCounts() {
        due("status", tree.status(), model.status);
        for (int i = -1; i <= 19; i++) {
            check.due("count " + i, tree.count(i), model.count(i));
        }
    }

    private void compareAll() {
        for (int p = -1; p <= 8; p++) {
            for (int i = -1; i <= 5; i++) {
                check.due("of " + p + " " + i, tree.of(p, i), model.of(p, i));
                check.due("sees " + p + " " + i, tree.sees(p, i), model.sees(p, i));
            }
            check.due("node " + p, tree.node(p), model.node(p));
        }
        for (int c = -1; c <= 24; c++) {
            for (int what = -1; what <= 4; what++) {
                check.due("cell " + c + " " + what, tree.cell(c, what), model.cell(c, what));
            }
            check.due("list " + c, tree.list(c), model.list(c));
            check.due("reach " + c, tree.reach(c), model.reach(c));
            check.due("drawn " + c, tree.drawn(c), model.drawn(c));
            for (int which = -1; which <= 2; which++) {
                check.due("old " + which + " " + c, tree.old(which, c), model.old(which, c));
            }
        }
        for (int key = -1; key <= 100; key++) {
            check.due("find " + key, tree.find(key), model.find(key));
        }
        for (int i = -1; i <= 4; i++) {
            check.due("why " + i, tree.why(i), model.why(i));
            check.due("ask " + i, tree.ask(i), model.ask(i));
        }
        check.due("holders", tree.holders(), model.holders());
        check.due("least", tree.least(), model.least());
        check.due("canBe", tree.canBe(), model.canBe());
        compareLaws();
    }

    private void compareLaws() {
        int k = mostly(22);
        int n = mostly(101);
        check.due("few " + k + " " + n, tree.few(k, n), model.few(k, n));
        for (int law = -2; law <= 6; law++) {
            for (int node = 0; node <= 8; node++) {
                int child = mostly(2);
                String call = "compare " + law + " " + node + " " + child;
                check.due(call, tree.compare(law, node, child), model.compare(law, node, child));
            }
        }
    }
}
