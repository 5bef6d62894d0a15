import java.util.Random;

/**
 * Graphs of few edges, where the terms can be taken literally: every set of edges and every way to
 * part it is looked at.
 */
public final class SmallGraphsTest {

    private static final int GRAPHS = 400;

    private final Due due;
    private final int[][] ends;
    private final ForestPacker packer = new ForestPacker();

    private SmallGraphsTest(Due due, Random random) {
        this.due = due;
        int n = 2 + random.nextInt(4);
        ends = new int[random.nextInt(8)][];
        packer.begin(n);
        for (int e = 0; e < ends.length; e++) {
            int a = random.nextInt(n);
            int b = (a + 1 + random.nextInt(n - 1)) % n;
            ends[e] = new int[] {a, b};
            due.is("join", packer.join(a, b), e);
        }
    }

    public static void main(String[] args) {
        Due due = new Due();
        for (int graph = 0; graph < GRAPHS; graph++) {
            SmallGraphsTest test = new SmallGraphsTest(due, new Random(graph));
            for (int k = 0; k <= 3; k++) {
                test.compare("graph " + graph + ", k " + k + ": ", k);
            }
        }
        due.end();
    }

    private void compare(String where, int k) {
        int held = heldSet(k);
        int[] parting = firstParting(k, held);
        due.is(where + "most", packer.most(k), Integer.bitCount(held));
        for (int e = 0; e < ends.length; e++) {
            boolean isHeld = (held >> e & 1) == 1;
            due.is(where + "held " + e, packer.held(k, e), isHeld ? 1 : 0);
            due.is(where + "forest " + e, packer.forest(k, e), isHeld ? parting[e] : -1);
            for (int f = 0; f < ends.length; f++) {
                boolean swaps = f == e || ((held >> f & 1) == 1
                        && firstParting(k, held & ~(1 << f) | 1 << e) != null);
                due.is(where + "why " + e + " " + f, packer.why(k, e, f), isHeld ? -1 : swaps ? 1 : 0);
            }
        }
    }

    /** Of the greatest sets that fit k the one with the least edges rather than not. */
    private int heldSet(int k) {
        int best = 0;
        for (int set = 0; set < 1 << ends.length; set++) {
            int more = Integer.bitCount(set) - Integer.bitCount(best);
            boolean earlier = Integer.reverse(set) + Integer.MIN_VALUE > Integer.reverse(best) + Integer.MIN_VALUE;
            if ((more > 0 || (more == 0 && earlier)) && firstParting(k, set) != null) {
                best = set;
            }
        }
        return best;
    }

    /** The first way, edge 0 counting most, to part the set into k forests; null if there is none. */
    private int[] firstParting(int k, int set) {
        int[] place = new int[ends.length];
        long ways = 1;
        for (int i = 0; i < Integer.bitCount(set); i++) {
            ways *= k;
        }
        for (long way = 0; way < ways; way++) {
            long rest = way;
            for (int e = ends.length - 1; e >= 0; e--) {
                if ((set >> e & 1) == 1) {
                    place[e] = (int) (rest % k);
                    rest /= k;
                }
            }
            if (allForests(k, set, place)) {
                return place;
            }
        }
        return null;
    }

    private boolean allForests(int k, int set, int[] place) {
        for (int f = 0; f < k; f++) {
            int[] tree = {0, 1, 2, 3, 4};
            for (int e = 0; e < ends.length; e++) {
                if ((set >> e & 1) == 1 && place[e] == f) {
                    int from = tree[ends[e][0]];
                    int to = tree[ends[e][1]];
                    if (from == to) {
                        return false;
                    }
                    for (int v = 0; v < tree.length; v++) {
                        tree[v] = tree[v] == from ? to : tree[v];
                    }
                }
            }
        }
        return true;
    }
}
