import java.util.Arrays;
import java.util.Random;

/**
 * Graphs of few edges, where the terms can be taken literally: every set of edges and every way to
 * part it is looked at.
 */
public final class SmallGraphsTest {

    private static final int GRAPHS = 400;
    private static final int FORESTS = 3;

    /** To try an edge more between each two vertices takes long where there are many. */
    private static final int FEW = 5;

    private final Due due;
    private final int n;
    private final int[][] ends;
    private final ForestPacker packer = new ForestPacker();

    private SmallGraphsTest(Due due, Random random) {
        this.due = due;
        n = 2 + random.nextInt(4);
        ends = new int[random.nextInt(8)][];
        packer.begin(n);
        for (int e = 0; e < ends.length; e++) {
            int a = random.nextInt(n);
            int b = (a + 1 + random.nextInt(n - 1)) % n;
            ends[e] = new int[] {a, b};
            due.is("join", packer.join(a, b), e);
        }
    }

    public static void main(String[] args) {
        Due due = new Due();
        for (int graph = 0; graph < GRAPHS; graph++) {
            SmallGraphsTest test = new SmallGraphsTest(due, new Random(graph));
            for (int k = 0; k <= FORESTS; k++) {
                test.compare("graph " + graph + ", k " + k + ": ", k);
                if (test.ends.length <= FEW) {
                    test.compareTight("graph " + graph + ", k " + k + ": ", k);
                }
            }
            test.compareWhole("graph " + graph + ": ");
        }
        due.end();
    }

    private void compare(String where, int k) {
        int held = heldSet(k, ends);
        int[] parting = firstParting(k, held, ends);
        due.is(where + "most", packer.most(k), Integer.bitCount(held));
        for (int e = 0; e < ends.length; e++) {
            boolean isHeld = (held >> e & 1) == 1;
            due.is(where + "held " + e, packer.held(k, e), isHeld ? 1 : 0);
            due.is(where + "forest " + e, packer.forest(k, e), isHeld ? parting[e] : -1);
            for (int f = 0; f < ends.length; f++) {
                boolean swaps = f == e || ((held >> f & 1) == 1
                        && firstParting(k, held & ~(1 << f) | 1 << e, ends) != null);
                due.is(where + "why " + e + " " + f, packer.why(k, e, f), isHeld ? -1 : swaps ? 1 : 0);
            }
        }
    }

    private void compareTight(String where, int k) {
        int classes = 0;
        boolean[][] tight = new boolean[n][n];
        for (int b = 0; b < n; b++) {
            boolean isFirst = true;
            for (int a = 0; a < n; a++) {
                tight[a][b] = a == b || (b < a ? isTight(k, a, b) : tight[b][a]);
                isFirst &= a >= b || !tight[a][b];
            }
            classes += isFirst ? 1 : 0;
        }
        int crossing = 0;
        for (int[] pair : ends) {
            crossing += tight[pair[0]][pair[1]] ? 0 : 1;
        }
        for (int a = 0; a < n; a++) {
            for (int b = 0; b < n; b++) {
                due.is(where + "tight " + a + " " + b, packer.tight(k, a, b), tight[a][b] ? 1 : 0);
            }
        }
        due.is(where + "classes", packer.classes(k), classes);
        due.is(where + "crossing", packer.crossing(k), crossing);
    }

    private boolean isTight(int k, int a, int b) {
        int[][] more = Arrays.copyOf(ends, ends.length + 1);
        more[ends.length] = new int[] {a, b};
        return Integer.bitCount(heldSet(k, more)) == Integer.bitCount(heldSet(k, ends));
    }

    /** What no k is told for; the graphs with more than FORESTS are left to the plain model. */
    private void compareWhole(String where) {
        int all = (1 << ends.length) - 1;
        int fewest = 0;
        while (fewest <= FORESTS && firstParting(fewest, all, ends) == null) {
            fewest++;
        }
        if (fewest <= FORESTS) {
            due.is(where + "arboricity", packer.arboricity(), fewest);
            due.is(where + "dense", packer.dense(), dense(fewest));
        }
        int trees = FORESTS;
        while (Integer.bitCount(heldSet(trees, ends)) != trees * (n - 1)) {
            trees--;
        }
        if (trees < FORESTS) {
            due.is(where + "spanning", packer.spanning(), trees);
        }
    }

    private int dense(int fewest) {
        if (fewest == 0) {
            return 0;
        }
        int held = heldSet(fewest - 1, ends);
        int first = Integer.numberOfTrailingZeros(~held);
        int vertices = 1 << ends[first][0] | 1 << ends[first][1];
        for (int f = 0; f < ends.length; f++) {
            if ((held >> f & 1) == 1 && firstParting(fewest - 1, held & ~(1 << f) | 1 << first, ends) != null) {
                vertices |= 1 << ends[f][0] | 1 << ends[f][1];
            }
        }
        return vertices;
    }

    /** Of the greatest sets that fit k the one with the least edges rather than not. */
    private static int heldSet(int k, int[][] ends) {
        int best = 0;
        for (int set = 0; set < 1 << ends.length; set++) {
            int more = Integer.bitCount(set) - Integer.bitCount(best);
            boolean earlier = Integer.reverse(set) + Integer.MIN_VALUE > Integer.reverse(best) + Integer.MIN_VALUE;
            if ((more > 0 || (more == 0 && earlier)) && firstParting(k, set, ends) != null) {
                best = set;
            }
        }
        return best;
    }

    /** The first way, edge 0 counting most, to part the set into k forests; null if there is none. */
    private static int[] firstParting(int k, int set, int[][] ends) {
        int[] place = new int[ends.length];
        long ways = 1;
        for (int i = 0; i < Integer.bitCount(set); i++) {
            ways *= k;
        }
        for (long way = 0; way < ways; way++) {
            long rest = way;
            for (int e = ends.length - 1; e >= 0; e--) {
                if ((set >> e & 1) == 1) {
                    place[e] = (int) (rest % k);
                    rest /= k;
                }
            }
            if (allForests(k, set, place, ends)) {
                return place;
            }
        }
        return null;
    }

    private static boolean allForests(int k, int set, int[] place, int[][] ends) {
        for (int f = 0; f < k; f++) {
            int[] tree = {0, 1, 2, 3, 4};
            for (int e = 0; e < ends.length; e++) {
                if ((set >> e & 1) == 1 && place[e] == f) {
                    int from = tree[ends[e][0]];
                    int to = tree[ends[e][1]];
                    if (from == to) {
                        return false;
                    }
                    for (int v = 0; v < tree.length; v++) {
                        tree[v] = tree[v] == from ? to : tree[v];
                    }
                }
            }
        }
        return true;
    }
}
