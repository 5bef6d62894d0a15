import java.util.Random;

/** Runs of calls made up at random (the same ones each time), compared with the plain model. */
public final class ModelTest {

    private static final int RUNS = 300;
    private static final int CALLS = 512;
    private static final int[] ODD = {-1, -2, 6, 7, 9, 10, 11, 23, 24, 25, 31, 32, 33, 64, Integer.MAX_VALUE, Integer.MIN_VALUE};

    private final Due due = new Due();
    private final Random random;
    private final ForestPacker packer = new ForestPacker();
    private final PlainModel model = new PlainModel();
    private final int run;

    private ModelTest(int run) {
        this.run = run;
        random = new Random(run);
    }

    public static void main(String[] args) {
        int wrong = 0;
        for (int run = 0; run < RUNS; run++) {
            ModelTest test = new ModelTest(run);
            test.calls();
            wrong += test.due.wrong();
        }
        System.out.println(RUNS + " runs of " + CALLS + " calls, " + wrong + " answers not as due");
        if (wrong != 0) {
            System.exit(1);
        }
    }

    /** Some runs change the graph often, others fill it first and ask much. */
    private void calls() {
        int n = 1 + random.nextInt(10);
        int changes = random.nextInt(3) == 0 ? 40 : 6;
        int fill = random.nextInt(26);
        int near = 2 + random.nextInt(9);
        begin(n);
        for (int i = 1; i < CALLS && due.wrong() == 0; i++) {
            if (i <= fill) {
                join(n, near);
            } else if (random.nextInt(100) < changes) {
                n = change(n, near);
            } else {
                ask(n);
            }
        }
    }

    private int change(int n, int near) {
        int kind = random.nextInt(60);
        if (kind == 0) {
            int next = argument(11);
            begin(next);
            return next >= 1 && next <= 10 ? next : n;
        }
        if (kind < 35) {
            join(n, near);
        } else {
            int e = argument(24);
            due.is(name("cut", e), packer.cut(e), model.cut(e));
        }
        return n;
    }

    private void ask(int n) {
        int k = argument(7);
        int e = argument(24);
        int a = argument(n);
        int b = argument(n);
        switch (random.nextInt(12)) {
            case 0 -> due.is(name("most", k), packer.most(k), model.most(k));
            case 1 -> due.is(name("held", k, e), packer.held(k, e), model.held(k, e));
            case 2, 3 -> due.is(name("forest", k, e), packer.forest(k, e), model.forest(k, e));
            case 4, 5 -> {
                int f = random.nextBoolean() ? -1 : argument(24);
                due.is(name("why", k, e, f), packer.why(k, e, f), model.why(k, e, f));
            }
            case 6 -> due.is(name("tight", k, a, b), packer.tight(k, a, b), model.tight(k, a, b));
            case 7 -> due.is(name("classes", k), packer.classes(k), model.classes(k));
            case 8 -> due.is(name("crossing", k), packer.crossing(k), model.crossing(k));
            case 9 -> due.is(name("arboricity"), packer.arboricity(), model.arboricity());
            case 10 -> {
                due.is(name("dense"), packer.dense(), model.dense());
                due.is(name("spanning"), packer.spanning(), model.spanning());
            }
            default -> {
                int what = argument(5);
                int of = what == 4 ? random.nextInt() : e;
                due.is(name("told", of, what), packer.told(of, what), model.told(of, what));
            }
        }
    }

    private void begin(int n) {
        due.is(name("begin", n), packer.begin(n), model.begin(n));
    }

    /** Ends below a bound of the run's own make crowded parts. */
    private void join(int n, int near) {
        int a = random.nextInt(3) == 0 ? argument(n) : random.nextInt(Math.min(n, near));
        int b = random.nextInt(3) == 0 ? argument(n) : random.nextInt(Math.min(n, near));
        due.is(name("join", a, b), packer.join(a, b), model.join(a, b));
    }

    private int argument(int bound) {
        return random.nextInt(25) == 0 ? ODD[random.nextInt(ODD.length)] : random.nextInt(bound);
    }

    private String name(String call, int... arguments) {
        StringBuilder text = new StringBuilder("run " + run + ": " + call + "(");
        for (int i = 0; i < arguments.length; i++) {
            text.append(i == 0 ? "" : ", ").append(arguments[i]);
        }
        return text.append(")").toString();
    }
}
