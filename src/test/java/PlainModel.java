import java.util.Arrays;

/**
 * The document's words taken one by one, without the program's search: a set fits k if no set of
 * vertices has more of its edges than k trees on them would (Nash-Williams), and a way to part edges
 * into forests is found by trying.
 */
final class PlainModel {

    static final int NONE = -1;
    static final int BAD = -2;
    static final int FULL = -3;

    private int n = 1;
    private final int[][] ends = new int[24][];
    private final Integer[] heldSets = new Integer[7];
    private final int[][] partings = new int[7][];

    int begin(int vertices) {
        if (vertices < 1 || vertices > 10) {
            return BAD;
        }
        int before = edges();
        Arrays.fill(ends, null);
        n = vertices;
        changed();
        return before;
    }

    int join(int a, int b) {
        if (a < 0 || a >= n || b < 0 || b >= n || a == b) {
            return BAD;
        }
        for (int e = 0; e < 24; e++) {
            if (ends[e] == null) {
                ends[e] = new int[] {Math.min(a, b), Math.max(a, b)};
                changed();
                return e;
            }
        }
        return FULL;
    }

    int cut(int e) {
        if (!isEdge(e)) {
            return NONE;
        }
        int answer = ends[e][0] * 10 + ends[e][1];
        ends[e] = null;
        changed();
        return answer;
    }

    int most(int k) {
        return isK(k) ? Integer.bitCount(heldSet(k)) : BAD;
    }

    int held(int k, int e) {
        if (!isK(k)) {
            return BAD;
        }
        return isEdge(e) ? heldSet(k) >> e & 1 : NONE;
    }

    int forest(int k, int e) {
        if (!isK(k)) {
            return BAD;
        }
        return isEdge(e) ? parting(k)[e] : NONE;
    }

    int why(int k, int e, int f) {
        if (!isK(k)) {
            return BAD;
        }
        if (held(k, e) != 0 || (f != NONE && !isEdge(f))) {
            return NONE;
        }
        int set = whySet(k, e);
        return f == NONE ? Integer.bitCount(set) : set >> f & 1;
    }

    int tight(int k, int a, int b) {
        if (!isK(k) || a < 0 || a >= n || b < 0 || b >= n) {
            return BAD;
        }
        return a == b || !fits(k, heldSet(k), a, b) ? 1 : 0;
    }

    int classes(int k) {
        if (!isK(k)) {
            return BAD;
        }
        int count = 0;
        for (int v = 0; v < n; v++) {
            boolean alone = true;
            for (int u = 0; u < v; u++) {
                alone &= tight(k, u, v) == 0;
            }
            count += alone ? 1 : 0;
        }
        return count;
    }

    int crossing(int k) {
        if (!isK(k)) {
            return BAD;
        }
        int count = 0;
        for (int e = 0; e < 24; e++) {
            count += isEdge(e) && tight(k, ends[e][0], ends[e][1]) == 0 ? 1 : 0;
        }
        return count;
    }

    int arboricity() {
        for (int k = 0; k <= 6; k++) {
            if (most(k) == edges()) {
                return k;
            }
        }
        return NONE;
    }

    int dense() {
        int a = arboricity();
        if (a <= 0) {
            return a;
        }
        int first = Integer.numberOfTrailingZeros(all() & ~heldSet(a - 1));
        int set = whySet(a - 1, first);
        int vertices = 0;
        for (int e = 0; e < 24; e++) {
            if ((set >> e & 1) == 1) {
                vertices |= 1 << ends[e][0] | 1 << ends[e][1];
            }
        }
        return vertices;
    }

    int spanning() {
        int greatest = 0;
        for (int k = 0; k <= 6; k++) {
            greatest = most(k) == k * (n - 1) ? k : greatest;
        }
        return greatest;
    }

    int told(int e, int what) {
        if (what == 0 || what == 1) {
            return isEdge(e) ? ends[e][what] : NONE;
        }
        if (what == 4) {
            int count = 0;
            for (int[] pair : ends) {
                count += pair != null && (e >> pair[0] & e >> pair[1] & 1) == 1 ? 1 : 0;
            }
            return count;
        }
        return what == 2 ? edges() : what == 3 ? n : BAD;
    }

    private void changed() {
        Arrays.fill(heldSets, null);
        Arrays.fill(partings, null);
    }

    private static boolean isK(int k) {
        return k >= 0 && k <= 6;
    }

    private boolean isEdge(int e) {
        return e >= 0 && e < 24 && ends[e] != null;
    }

    private int all() {
        int set = 0;
        for (int e = 0; e < 24; e++) {
            set |= isEdge(e) ? 1 << e : 0;
        }
        return set;
    }

    private int edges() {
        return Integer.bitCount(all());
    }

    private int heldSet(int k) {
        if (heldSets[k] == null) {
            int set = 0;
            for (int e = 0; e < 24; e++) {
                if (isEdge(e) && fits(k, set, ends[e][0], ends[e][1])) {
                    set |= 1 << e;
                }
            }
            heldSets[k] = set;
        }
        return heldSets[k];
    }

    private int whySet(int k, int e) {
        int heldSet = heldSet(k);
        int set = 1 << e;
        for (int f = 0; f < 24; f++) {
            if ((heldSet >> f & 1) == 1 && fits(k, heldSet & ~(1 << f), ends[e][0], ends[e][1])) {
                set |= 1 << f;
            }
        }
        return set;
    }

    /** Whether the set fits k together with one edge more between a and b. */
    private boolean fits(int k, int set, int a, int b) {
        for (int vertices = 1; vertices < 1 << n; vertices++) {
            int inside = vertices >> a & vertices >> b & 1;
            for (int e = 0; e < 24; e++) {
                if ((set >> e & 1) == 1) {
                    inside += vertices >> ends[e][0] & vertices >> ends[e][1] & 1;
                }
            }
            if (inside > k * (Integer.bitCount(vertices) - 1)) {
                return false;
            }
        }
        return true;
    }

    private int[] parting(int k) {
        if (partings[k] == null) {
            int[] place = new int[24];
            Arrays.fill(place, NONE);
            int heldSet = heldSet(k);
            for (int e = 0; e < 24; e++) {
                if ((heldSet >> e & 1) == 1) {
                    place[e] = leastForest(k, heldSet, place, e);
                }
            }
            partings[k] = place;
        }
        return partings[k];
    }

    private int leastForest(int k, int set, int[] place, int e) {
        for (int f = 0; f < k; f++) {
            if (isOpen(place, f, e)) {
                int[] next = place.clone();
                next[e] = f;
                if (canComplete(k, set, next)) {
                    return f;
                }
            }
        }
        throw new IllegalStateException("the model finds no forests");
    }

    /** Tries every forest for the edges of the set that have none, the edge with fewest choices first. */
    private boolean canComplete(int k, int set, int[] place) {
        int best = NONE;
        int fewest = 7;
        for (int e = 0; e < 24; e++) {
            if ((set >> e & 1) == 1 && place[e] == NONE) {
                int choices = 0;
                for (int f = 0; f < k; f++) {
                    choices += isOpen(place, f, e) ? 1 : 0;
                }
                if (choices < fewest) {
                    fewest = choices;
                    best = e;
                }
            }
        }
        if (best == NONE) {
            return true;
        }
        if (fewest == 0 || isCrowded(k, set, place)) {
            return false;
        }
        boolean done = false;
        for (int f = 0; f < k && !done; f++) {
            if (isOpen(place, f, best)) {
                place[best] = f;
                done = canComplete(k, set, place);
                place[best] = NONE;
            }
        }
        return done;
    }

    /**
     * Whether some vertices have more edges without a forest than the trees between them still lack;
     * trying alone would take too long where there is no way.
     */
    private boolean isCrowded(int k, int set, int[] place) {
        int[] trees = new int[k * n];
        for (int f = 0; f < k; f++) {
            for (int v = 0; v < n; v++) {
                trees[f * n + v] = treeOf(place, f, v);
            }
        }
        for (int vertices = 1; vertices < 1 << n; vertices++) {
            int spare = 0;
            for (int e = 0; e < 24; e++) {
                if ((set >> e & 1) == 1 && place[e] == NONE) {
                    spare -= vertices >> ends[e][0] & vertices >> ends[e][1] & 1;
                }
            }
            for (int f = 0; f < k && spare < 0; f++) {
                spare--;
                for (int rest = vertices; rest != 0; spare++) {
                    rest &= ~trees[f * n + Integer.numberOfTrailingZeros(rest)];
                }
            }
            if (spare < 0) {
                return true;
            }
        }
        return false;
    }

    /** Whether edge e closes no way round with the edges placed in forest f. */
    private boolean isOpen(int[] place, int f, int e) {
        return (treeOf(place, f, ends[e][0]) >> ends[e][1] & 1) == 0;
    }

    /** The vertices that the edges placed in forest f tie to v. */
    private int treeOf(int[] place, int f, int v) {
        int seen = 1 << v;
        for (int before = 0; before != seen;) {
            before = seen;
            for (int x = 0; x < 24; x++) {
                if (place[x] == f) {
                    int pair = 1 << ends[x][0] | 1 << ends[x][1];
                    seen |= (seen & pair) != 0 ? pair : 0;
                }
            }
        }
        return seen;
    }
}
