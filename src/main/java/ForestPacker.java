import java.util.Arrays;

/**
 * A graph of at most 10 vertices and 24 edges, and how its edges go into forests.
 *
 * <p>All questions about k forests rest on one search, the one of matroid union: an edge wants a
 * place; a forest in which it closes a ring can take it if an edge of that ring moves on to another
 * forest, and so on, until an edge finds a forest in which it closes no ring.
 */
public final class ForestPacker {

    public static final int NONE = -1, BAD = -2, FULL = -3;

    private static final int MAX_VERTICES = 10;
    private static final int MAX_EDGES = 24;
    private static final int MAX_FORESTS = 6;

    /** What stands for a way of edges where there is none; no set of 24 edges has these bits. */
    private static final int APART = -1;

    private final Graph graph;

    /** The packing into k forests at index k, packed anew when asked for after a change. */
    private final Packing[] packings;

    public ForestPacker() {
        graph = new Graph();
        packings = new Packing[MAX_FORESTS + 1];
        for (int k = 0; k <= MAX_FORESTS; k++) {
            packings[k] = new Packing(k);
        }
    }

    public int begin(int n) {
        if (n < 1 || n > MAX_VERTICES) {
            return BAD;
        }
        int before = graph.edgeCount();
        graph.vertices = n;
        graph.present = 0;
        forgetPackings();
        return before;
    }

    public int join(int a, int b) {
        if (!graph.hasVertex(a) || !graph.hasVertex(b) || a == b) {
            return BAD;
        }
        int e = graph.leastFree();
        if (e == NONE) {
            return FULL;
        }
        graph.lesser[e] = Math.min(a, b);
        graph.greater[e] = Math.max(a, b);
        graph.present |= 1 << e;
        forgetPackings();
        return e;
    }

    public int cut(int e) {
        if (!graph.hasEdge(e)) {
            return NONE;
        }
        graph.present &= ~(1 << e);
        forgetPackings();
        return graph.lesser[e] * 10 + graph.greater[e];
    }

    public int most(int k) {
        return isForestCount(k) ? packed(k).size : BAD;
    }

    public int held(int k, int e) {
        if (!isForestCount(k)) {
            return BAD;
        }
        if (!graph.hasEdge(e)) {
            return NONE;
        }
        return packed(k).place[e] != NONE ? 1 : 0;
    }

    public int forest(int k, int e) {
        if (!isForestCount(k)) {
            return BAD;
        }
        if (!graph.hasEdge(e)) {
            return NONE;
        }
        Packing packing = packed(k);
        packing.settle(graph);
        return packing.place[e];
    }

    public int why(int k, int e, int f) {
        if (!isForestCount(k)) {
            return BAD;
        }
        if (!graph.hasEdge(e) || (f != NONE && !graph.hasEdge(f))) {
            return NONE;
        }
        Packing packing = packed(k);
        if (packing.place[e] != NONE) {
            return NONE;
        }
        int reason = packing.reason(graph, e);
        return f == NONE ? Integer.bitCount(reason) : reason >> f & 1;
    }

    public int tight(int k, int a, int b) {
        if (!isForestCount(k) || !graph.hasVertex(a) || !graph.hasVertex(b)) {
            return BAD;
        }
        return packed(k).findRoom(graph, a, b) ? 0 : 1;
    }

    public int classes(int k) {
        if (!isForestCount(k)) {
            return BAD;
        }
        Packing packing = packed(k);
        int count = 0;
        for (int v = 0; v < graph.vertices; v++) {
            if (packing.isFirstOfClass(graph, v)) {
                count++;
            }
        }
        return count;
    }

    public int crossing(int k) {
        if (!isForestCount(k)) {
            return BAD;
        }
        Packing packing = packed(k);
        int count = 0;
        for (int e = 0; e < MAX_EDGES; e++) {
            if (graph.hasEdge(e) && packing.findRoom(graph, graph.lesser[e], graph.greater[e])) {
                count++;
            }
        }
        return count;
    }

    public int arboricity() {
        int edges = graph.edgeCount();
        for (int k = 0; k <= MAX_FORESTS; k++) {
            if (packed(k).size == edges) {
                return k;
            }
        }
        return NONE;
    }

    public int dense() {
        int needed = arboricity();
        if (needed == NONE) {
            return NONE;
        }
        if (needed == 0) {
            return 0;
        }
        Packing packing = packed(needed - 1);
        for (int e = 0; e < MAX_EDGES; e++) {
            if (graph.hasEdge(e) && packing.place[e] == NONE) {
                return graph.verticesOf(packing.reason(graph, e));
            }
        }
        return 0;
    }

    public int spanning() {
        for (int k = MAX_FORESTS; k > 0; k--) {
            if (packed(k).size == k * (graph.vertices - 1)) {
                return k;
            }
        }
        return 0;
    }

    public int told(int e, int what) {
        switch (what) {
            case 0:
                return graph.hasEdge(e) ? graph.lesser[e] : NONE;
            case 1:
                return graph.hasEdge(e) ? graph.greater[e] : NONE;
            case 2:
                return graph.edgeCount();
            case 3:
                return graph.vertices;
            case 4:
                return graph.edgesAmong(e);
            default:
                return BAD;
        }
    }

    private static boolean isForestCount(int k) {
        return k >= 0 && k <= MAX_FORESTS;
    }

    private void forgetPackings() {
        for (int k = 0; k <= MAX_FORESTS; k++) {
            packings[k].isPacked = false;
        }
    }

    private Packing packed(int k) {
        Packing packing = packings[k];
        if (!packing.isPacked) {
            packing.pack(graph);
        }
        return packing;
    }

    /** The vertices and edges; sets of edges and of vertices are bits. */
    private static final class Graph {

        final int[] lesser = new int[MAX_EDGES];
        final int[] greater = new int[MAX_EDGES];
        int present = 0;
        int vertices = 1;

        boolean hasVertex(int v) {
            return v >= 0 && v < vertices;
        }

        boolean hasEdge(int e) {
            return e >= 0 && e < MAX_EDGES && (present >> e & 1) == 1;
        }

        int edgeCount() {
            return Integer.bitCount(present);
        }

        int leastFree() {
            for (int e = 0; e < MAX_EDGES; e++) {
                if (!hasEdge(e)) {
                    return e;
                }
            }
            return NONE;
        }

        int edgesAmong(int vertexSet) {
            int count = 0;
            for (int e = 0; e < MAX_EDGES; e++) {
                if (hasEdge(e) && (verticesOf(1 << e) & ~vertexSet) == 0) {
                    count++;
                }
            }
            return count;
        }

        int verticesOf(int edgeSet) {
            int ends = 0;
            for (int e = 0; e < MAX_EDGES; e++) {
                if ((edgeSet >> e & 1) == 1) {
                    ends |= 1 << lesser[e] | 1 << greater[e];
                }
            }
            return ends;
        }
    }

    /**
     * One forest, its trees hung up by roots, so that a way between two vertices is found by
     * climbing and needs no search.
     */
    private static final class RootedForest {

        private final int[] parent = new int[MAX_VERTICES];

        /** The edge to the parent as a bit, so that ways are gathered by or; 0 at a root. */
        private final int[] edgeUp = new int[MAX_VERTICES];

        void clear() {
            Arrays.fill(parent, NONE);
            Arrays.fill(edgeUp, 0);
        }

        /** The edges between a and b as bits; APART if they are in different trees. */
        int way(int a, int b) {
            int above = 0;
            int v = a;
            for (int step = 0; step < MAX_VERTICES && v >= 0 && v < MAX_VERTICES; step++) {
                above |= 1 << v;
                v = parent[v];
            }
            int edges = 0;
            int meet = b;
            for (int step = 0; step < MAX_VERTICES && meet >= 0 && meet < MAX_VERTICES; step++) {
                if ((above >> meet & 1) == 1) {
                    break;
                }
                edges |= edgeUp[meet];
                meet = parent[meet];
            }
            if (meet < 0) {
                return APART;
            }
            v = a;
            for (int step = 0; step < MAX_VERTICES && v >= 0 && v < MAX_VERTICES; step++) {
                if (v == meet) {
                    break;
                }
                edges |= edgeUp[v];
                v = parent[v];
            }
            return edges;
        }

        /**
         * Lets b hang on a. The line from b to its root must turn round for that, as b may have no
         * second parent.
         */
        void link(int edge, int a, int b) {
            int child = b;
            int newParent = a;
            int newEdge = edge;
            for (int step = 0;
                    step < MAX_VERTICES && child >= 0 && child < MAX_VERTICES;
                    step++) {
                int oldParent = parent[child];
                int oldEdge = edgeUp[child];
                parent[child] = newParent;
                edgeUp[child] = newEdge;
                newParent = child;
                newEdge = oldEdge;
                child = oldParent;
            }
        }

        void unlink(int edge) {
            for (int v = 0; v < MAX_VERTICES; v++) {
                if (edgeUp[v] == edge) {
                    parent[v] = NONE;
                    edgeUp[v] = 0;
                }
            }
        }
    }

    /** What a certain number of forests holds, and in which forest each edge is. */
    private static final class Packing {

        /** The forest of each edge; NONE for those that are not held. */
        final int[] place = new int[MAX_EDGES];
        int size = 0;
        boolean isPacked = false;

        private final RootedForest[] forests;
        private boolean isSettled = false;

        /** The edges that no search may move from their forests, as bits. */
        private int fixed = 0;

        /** The edges that the last search would have move, as bits and in the order it met them. */
        private int reached = 0;
        private final int[] queue = new int[MAX_EDGES];
        private int queued = 0;

        /** For a reached edge the one that would take its place; NONE: the new one. */
        private final int[] follower = new int[MAX_EDGES];

        /** The edge that can move without making another move (NONE: the new one), and where to. */
        private int lastMoved = NONE;
        private int room = NONE;

        Packing(int k) {
            forests = new RootedForest[Math.max(0, k)];
            for (int f = 0; f < forests.length; f++) {
                forests[f] = new RootedForest();
            }
        }

        /** Lesser numbers come first, so what is held in the end is the document's HELD. */
        void pack(Graph graph) {
            for (int f = 0; f < forests.length; f++) {
                forests[f].clear();
            }
            Arrays.fill(place, NONE);
            size = 0;
            for (int e = 0; e < MAX_EDGES; e++) {
                if (graph.hasEdge(e) && findRoom(graph, graph.lesser[e], graph.greater[e])) {
                    takeIn(graph, e);
                    size++;
                }
            }
            isPacked = true;
            isSettled = false;
        }

        /**
         * Gives each edge in turn the least forest that leaves a place for all later ones. Any
         * packing of the same edges serves all other questions, so it stays settled.
         */
        void settle(Graph graph) {
            if (isSettled) {
                return;
            }
            for (int e = 0; e < MAX_EDGES; e++) {
                fixed |= 1 << e;
                int last = place[e];
                for (int f = 0; f < last && f < forests.length; f++) {
                    if (movesTo(graph, e, f)) {
                        break;
                    }
                }
            }
            fixed = 0;
            isSettled = true;
        }

        /**
         * Moves e, itself fixed, to forest f if edges that are not fixed can make way. Which edge
         * of the ring is put out does not matter: the rest is packed, so whether one more goes in
         * depends on the set alone.
         */
        private boolean movesTo(Graph graph, int e, int f) {
            int ring = forests[f].way(graph.lesser[e], graph.greater[e]);
            if (ring == APART) {
                remove(e);
                put(graph, e, f);
                return true;
            }
            int out = leastOf(ring & ~fixed);
            if (out == NONE) {
                return false;
            }
            int old = place[e];
            remove(out);
            remove(e);
            put(graph, e, f);
            if (findRoom(graph, graph.lesser[out], graph.greater[out])) {
                takeIn(graph, out);
                return true;
            }
            remove(e);
            put(graph, e, old);
            put(graph, out, f);
            return false;
        }

        /**
         * The edge e, which is not held, and the held ones whose place it could take: just those
         * that the search for room for it reaches.
         */
        int reason(Graph graph, int e) {
            findRoom(graph, graph.lesser[e], graph.greater[e]);
            return reached | 1 << e;
        }

        boolean isFirstOfClass(Graph graph, int v) {
            for (int u = 0; u < v; u++) {
                if (!findRoom(graph, u, v)) {
                    return false;
                }
            }
            return true;
        }

        /**
         * Whether one edge more between a and b would go in. Nothing moves yet; breadth first,
         * because only a shortest row of moves is sure to leave forests.
         */
        boolean findRoom(Graph graph, int a, int b) {
            reached = 0;
            queued = 0;
            if (reachFrom(NONE, a, b)) {
                return true;
            }
            for (int head = 0; head < queued && head < MAX_EDGES; head++) {
                int e = queue[head];
                if (graph.hasEdge(e) && reachFrom(e, graph.lesser[e], graph.greater[e])) {
                    return true;
                }
            }
            return false;
        }

        /** Reaches the rings that e would close; true at once at a forest where it closes none. */
        private boolean reachFrom(int e, int a, int b) {
            for (int f = 0; f < forests.length; f++) {
                int ring = forests[f].way(a, b);
                if (ring == APART) {
                    lastMoved = e;
                    room = f;
                    return true;
                }
                reach(ring & ~fixed & ~reached, e);
            }
            return false;
        }

        private void reach(int edges, int from) {
            reached |= edges;
            int rest = edges;
            for (int e = 0; e < MAX_EDGES && rest != 0; e++) {
                if ((rest >> e & 1) == 1 && queued < MAX_EDGES) {
                    follower[e] = from;
                    queue[queued] = e;
                    queued++;
                    rest &= ~(1 << e);
                }
            }
        }

        /**
         * Carries out the moves that findRoom has just found for e, the last one first, so that no
         * forest ever has a ring on the way.
         */
        private void takeIn(Graph graph, int e) {
            int target = room;
            int moved = lastMoved;
            for (int step = 0; step < MAX_EDGES && graph.hasEdge(moved); step++) {
                int old = place[moved];
                remove(moved);
                put(graph, moved, target);
                target = old;
                moved = follower[moved];
            }
            put(graph, e, target);
        }

        private void put(Graph graph, int e, int f) {
            if (f >= 0 && f < forests.length) {
                forests[f].link(1 << e, graph.lesser[e], graph.greater[e]);
                place[e] = f;
            }
        }

        private void remove(int e) {
            int f = place[e];
            if (f >= 0 && f < forests.length) {
                forests[f].unlink(1 << e);
                place[e] = NONE;
            }
        }

        private static int leastOf(int edges) {
            for (int e = 0; e < MAX_EDGES; e++) {
                if ((edges >> e & 1) == 1) {
                    return e;
                }
            }
            return NONE;
        }
    }
}
