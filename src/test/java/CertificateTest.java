import java.util.Random;

/**
 * "What it is": the answers show one another to be right, without a model. The forests are forests,
 * a crowded part shows why an edge is not held and that no fewer forests do, and the classes show
 * that there are no more spanning trees.
 */
public final class CertificateTest {

    private static final int GRAPHS = 1500;
    private static final int NONE = -1;

    private final Due due;
    private final ForestPacker packer;
    private final int n;

    private CertificateTest(Due due, ForestPacker packer) {
        this.due = due;
        this.packer = packer;
        n = packer.told(0, 3);
    }

    public static void main(String[] args) {
        Due due = new Due();
        for (int i = 0; i < GRAPHS; i++) {
            due.sentence("What it is", "graph " + i);
            for (int part = 0; part < 7; part++) {
                // an object has 512 calls only
                new CertificateTest(due, graph(i)).ofForests(part);
            }
            CertificateTest test = new CertificateTest(due, graph(i));
            test.ofDense();
            test.ofSpanning();
        }
        due.end();
    }

    /** Ends below a bound of the graph's own make crowded parts; some edges go again. */
    private static ForestPacker graph(int seed) {
        Random random = new Random(seed);
        ForestPacker x = new ForestPacker();
        int n = 2 + random.nextInt(9);
        int near = 2 + random.nextInt(n - 1);
        int edges = random.nextInt(25);
        x.begin(n);
        for (int i = 0; i < edges; i++) {
            int bound = random.nextInt(4) == 0 ? n : near;
            int a = random.nextInt(bound);
            x.join(a, (a + 1 + random.nextInt(bound - 1)) % bound);
        }
        for (int i = random.nextInt(4); i > 0; i--) {
            x.cut(random.nextInt(24));
        }
        return x;
    }

    private void ofForests(int k) {
        int[] place = new int[24];
        int held = 0;
        int firstOut = NONE;
        for (int e = 0; e < 24; e++) {
            place[e] = packer.forest(k, e);
            due.is("held " + k + " " + e, packer.held(k, e), isEdge(e) ? place[e] >= 0 ? 1 : 0 : NONE);
            held += place[e] >= 0 ? 1 : 0;
            firstOut = firstOut == NONE && isEdge(e) && place[e] < 0 ? e : firstOut;
        }
        due.is("most " + k, packer.most(k), held);
        for (int f = 0; f < k; f++) {
            due.is("forest " + f + " of " + k + " has a way round", hasRing(place, f) ? 1 : 0, 0);
        }
        // a class of several vertices holds k trees of them, and all edges between classes are held
        due.is("most by classes " + k, k * (n - packer.classes(k)) + packer.crossing(k), held);
        if (firstOut != NONE) {
            ofReason(k, firstOut);
        }
    }

    /** The edges that are why are one more than k forests on their vertices hold. */
    private void ofReason(int k, int e) {
        int count = 0;
        int vertices = 1 << packer.told(e, 0) | 1 << packer.told(e, 1);
        for (int f = 0; f < 24; f++) {
            if (packer.why(k, e, f) == 1) {
                count++;
                vertices |= 1 << packer.told(f, 0) | 1 << packer.told(f, 1);
            }
        }
        due.is("why " + k + " " + e, packer.why(k, e, NONE), count);
        if (k > 0) {
            due.is("why " + k + " " + e + " is crowded", count, k * (Integer.bitCount(vertices) - 1) + 1);
        }
    }

    private void ofDense() {
        int fewest = packer.arboricity();
        int part = packer.dense();
        if (fewest > 0) {
            int room = (fewest - 1) * (Integer.bitCount(part) - 1);
            due.is("dense shows arboricity " + fewest, packer.told(part, 4) > room ? 1 : 0, 1);
            due.is("all in " + fewest, packer.most(fewest), packer.told(0, 2));
        } else {
            due.is("dense without a part", part, fewest);
        }
    }

    private void ofSpanning() {
        int trees = packer.spanning();
        due.is("trees " + trees, packer.most(trees), trees * (n - 1));
        if (trees < 6) {
            int more = trees + 1;
            boolean isShown = packer.crossing(more) < more * (packer.classes(more) - 1);
            due.is("classes show spanning " + trees, isShown ? 1 : 0, 1);
        }
    }

    private boolean isEdge(int e) {
        return packer.told(e, 0) != NONE;
    }

    private boolean hasRing(int[] place, int f) {
        int[] tree = {0, 1, 2, 3, 4, 5, 6, 7, 8, 9};
        for (int e = 0; e < 24; e++) {
            if (place[e] == f) {
                int from = tree[packer.told(e, 0)];
                int to = tree[packer.told(e, 1)];
                if (from == to) {
                    return true;
                }
                for (int v = 0; v < tree.length; v++) {
                    tree[v] = tree[v] == from ? to : tree[v];
                }
            }
        }
        return false;
    }
}
