/**
 * All calls with all arguments at and beyond the bounds, in graphs that are empty, full or between,
 * compared with the plain model; and no refused call or question changes anything.
 */
public final class BoundarySweepTest {

    private static final int MIN = Integer.MIN_VALUE;
    private static final int MAX = Integer.MAX_VALUE;

    /** An object is asked no more than its 512 calls, those that build its graph among them. */
    private static final int QUESTIONS = 480;

    private static final int[] KS = {MIN, MIN + 6, -8, -2, -1, 0, 1, 2, 3, 4, 5, 6, 7, 8, 32, 38, MAX};
    private static final int[] EDGES = {MIN, MIN + 1, -32, -24, -3, -2, -1, 0, 1, 2, 5, 6, 11, 22, 23, 24, 25, 31, 32, 55, 64, MAX};
    private static final int[] VERTICES = {MIN, -32, -2, -1, 0, 1, 2, 3, 4, 5, 8, 9, 10, 11, 31, 32, 33, 41, MAX};
    private static final int[] BITS = {MIN, MIN + 1, MIN + 3, ~1023, -3, -2, -1, 0, 1, 2, 3, 7, 511, 512, 513, 1022, 1023, 1024, 1025, MAX - 1, MAX};

    /** Vertices, then the joins by two digits each; -1 - e cuts edge e. */
    private static final int[][] GRAPHS = {
        {1},
        {2},
        {10},
        {2, 1},
        {10, 90},
        {2, 1, 10, 1, 10, 1, 10},
        {2, 1, 10, 1, 10, 1, 10, 1},
        {2, 1, 1, 1, 1, 1, 1, 1, 1, 1, 1, 1, 1, 1, 1, 1, 1, 1, 1, 1, 1, 1, 1, 1, 1},
        {2, 1, 1, 1, 1, 1, 1, 1, 1, 1, 1, 1, 1, 1, 1, 1, 1, 1, 1, 1, 1, 1, 1, 1, 1, -1, -24},
        {4, 1, 2, 3, 12, 13, 23},
        {4, 1, 2, 3, 12, 13, 23, 1, -4},
        {5, 1, 2, 3, 4, 12, 13, 14, 23, 24, 34, 1, 2, 3, 4, 12, 13, 14, 23, 24, 34, 1, 2, 3, 4},
        {5, 1, 2, 3, 4, 12, 13, 14, 23, 24, 34, 1, 2, 3, 4, 12, 13, 14, 23, 24, 34, 1, 2, 3, 4, -6, -24},
        {10, 1, 12, 23, 34, 45, 56, 67, 78, 89, 9, 2, 13, 24, 35, 46, 57, 68, 79, 8, 19, 3, 14, 25, 36},
        {10, 1, 12, 23, 34, 45, 56, 67, 78, 89, 90},
        {9, 1, 1, 12, 12, 34, 34, 34, 45, 67, 78, 68, 67, 5},
    };

    private final Due due;
    private final int[] graph;
    private final String before;
    private final PlainModel model = new PlainModel();
    private ForestPacker packer;
    private int asked = 0;

    private BoundarySweepTest(Due due, int[] graph) {
        this.due = due;
        this.graph = graph;
        before = Graphs.all(built());
        model.begin(graph[0]);
        for (int i = 1; i < graph.length; i++) {
            if (graph[i] < 0) {
                model.cut(-1 - graph[i]);
            } else {
                model.join(graph[i] / 10, graph[i] % 10);
            }
        }
        packer = built();
    }

    public static void main(String[] args) {
        Due due = new Due();
        for (int i = 0; i < GRAPHS.length; i++) {
            due.sentence("Promises 1 to 15", "graph " + i + " of the sweep");
            BoundarySweepTest test = new BoundarySweepTest(due, GRAPHS[i]);
            test.ofNothing();
            test.ofForests();
            test.ofEdges();
            test.ofVertices();
            test.ofTold();
            test.begins();
            test.joins();
            test.cuts();
        }
        due.end();
    }

    private ForestPacker built() {
        ForestPacker x = new ForestPacker();
        x.begin(graph[0]);
        for (int i = 1; i < graph.length; i++) {
            if (graph[i] < 0) {
                x.cut(-1 - graph[i]);
            } else {
                x.join(graph[i] / 10, graph[i] % 10);
            }
        }
        return x;
    }

    private ForestPacker next() {
        asked++;
        if (asked % QUESTIONS == 0) {
            packer = built();
        }
        return packer;
    }

    private void ofNothing() {
        due.is("arboricity", next().arboricity(), model.arboricity());
        due.is("dense", next().dense(), model.dense());
        due.is("spanning", next().spanning(), model.spanning());
    }

    private void ofForests() {
        for (int k : KS) {
            due.is("most " + k, next().most(k), model.most(k));
            due.is("classes " + k, next().classes(k), model.classes(k));
            due.is("crossing " + k, next().crossing(k), model.crossing(k));
        }
    }

    private void ofEdges() {
        for (int k : KS) {
            for (int e : EDGES) {
                String arguments = k + " " + e;
                due.is("held " + arguments, next().held(k, e), model.held(k, e));
                due.is("forest " + arguments, next().forest(k, e), model.forest(k, e));
                for (int f : EDGES) {
                    due.is("why " + arguments + " " + f, next().why(k, e, f), model.why(k, e, f));
                }
            }
        }
    }

    private void ofVertices() {
        for (int k : KS) {
            for (int a : VERTICES) {
                for (int b : VERTICES) {
                    due.is("tight " + k + " " + a + " " + b, next().tight(k, a, b), model.tight(k, a, b));
                }
            }
        }
    }

    private void ofTold() {
        for (int what : new int[] {MIN, MIN + 4, -2, -1, 0, 1, 2, 3, 4, 5, 6, 32, 36, MAX}) {
            for (int e : EDGES) {
                due.is("told " + e + " " + what, next().told(e, what), model.told(e, what));
            }
            for (int e : BITS) {
                due.is("told " + e + " " + what, next().told(e, what), model.told(e, what));
            }
        }
    }

    private void begins() {
        for (int n : VERTICES) {
            boolean isRefused = n < 1 || n > 10;
            ForestPacker x = built();
            due.is("begin " + n, x.begin(n), isRefused ? -2 : model.told(0, 2));
            due.is("vertices after begin " + n, x.told(0, 3), isRefused ? graph[0] : n);
            if (isRefused) {
                isAsBefore("begin " + n, x);
            } else {
                due.is("edges after begin " + n, x.told(0, 2), 0);
            }
        }
    }

    private void joins() {
        int edges = model.told(0, 2);
        for (int a : VERTICES) {
            for (int b : VERTICES) {
                String call = "join " + a + " " + b;
                ForestPacker x = built();
                if (a < 0 || a >= graph[0] || b < 0 || b >= graph[0] || a == b) {
                    due.is(call, x.join(a, b), -2);
                    isAsBefore(call, x);
                } else if (edges == 24) {
                    due.is(call, x.join(a, b), -3);
                    isAsBefore(call, x);
                } else {
                    joined(call, x, a, b);
                }
            }
        }
    }

    private void joined(String call, ForestPacker x, int a, int b) {
        int free = 0;
        while (model.told(free, 0) >= 0) {
            free++;
        }
        due.is(call, x.join(a, b), free);
        due.is("edges after " + call, x.told(0, 2), model.told(0, 2) + 1);
        due.is("vertices after " + call, x.told(0, 3), graph[0]);
        due.is("lesser after " + call, x.told(free, 0), Math.min(a, b));
        due.is("greater after " + call, x.told(free, 1), Math.max(a, b));
        due.is("cut after " + call, x.cut(free), Math.min(a, b) * 10 + Math.max(a, b));
        isAsBefore(call + " and cut", x);
    }

    private void cuts() {
        for (int e : EDGES) {
            String call = "cut " + e;
            ForestPacker x = built();
            int lesser = model.told(e, 0);
            if (lesser < 0) {
                due.is(call, x.cut(e), -1);
                isAsBefore(call, x);
            } else {
                due.is(call, x.cut(e), lesser * 10 + model.told(e, 1));
                due.is("edges after " + call, x.told(0, 2), model.told(0, 2) - 1);
                due.is("ends after " + call, x.told(e, 0), -1);
                due.is(call + " again", x.cut(e), -1);
            }
        }
        isAsBefore("the last questions", questioned());
    }

    /** All questions once more to one object: they, too, change nothing. */
    private ForestPacker questioned() {
        ForestPacker x = built();
        for (int k = -1; k <= 7; k++) {
            x.tight(k, 0, 1);
            x.why(k, 1, 0);
            x.forest(k, 23);
            x.crossing(k);
        }
        x.dense();
        x.arboricity();
        x.spanning();
        x.told(-1, 4);
        return x;
    }

    private void isAsBefore(String call, ForestPacker x) {
        due.is("all as before after " + call, Graphs.all(x).equals(before) ? 1 : 0, 1);
    }
}
