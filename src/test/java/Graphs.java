/** Graphs that several tests start from, and all that can be asked of one. */
final class Graphs {

    private Graphs() {
    }

    /** A graph with the edges 0, 1, .. between the vertices that two digits each tell. */
    static ForestPacker graph(int n, int... edges) {
        ForestPacker x = new ForestPacker();
        need("begin", x.begin(n), 0);
        for (int e = 0; e < edges.length; e++) {
            need("join", x.join(edges[e] / 10, edges[e] % 10), e);
        }
        return x;
    }

    static ForestPacker parallels(int count) {
        ForestPacker x = graph(2);
        for (int e = 0; e < count; e++) {
            need("join", x.join(e & 1, 1 - (e & 1)), e);
        }
        return x;
    }

    static ForestPacker k4() {
        return graph(4, 1, 2, 3, 12, 13, 23);
    }

    /** 24 edges on 5 vertices that are just six spanning trees: each pair twice, and a star. */
    static ForestPacker sixTrees() {
        return graph(5, 1, 2, 3, 4, 12, 13, 14, 23, 24, 34, 1, 2, 3, 4, 12, 13, 14, 23, 24, 34, 1, 2, 3, 4);
    }

    /** 24 edges on 10 vertices, no two of which join the same two: no six forests are full. */
    static ForestPacker wide() {
        return graph(10, 1, 12, 23, 34, 45, 56, 67, 78, 89, 9, 2, 13, 24, 35, 46, 57, 68, 79, 8, 19, 3, 14, 25, 36);
    }

    /** All that the object tells of itself without arguments that it would refuse; 389 calls. */
    static String all(ForestPacker x) {
        StringBuilder text = new StringBuilder();
        for (int e = 0; e < 24; e++) {
            text.append(x.told(e, 0)).append(',').append(x.told(e, 1)).append(' ');
        }
        text.append(x.told(0, 2)).append(' ').append(x.told(0, 3)).append(' ');
        for (int k = 0; k <= 6; k++) {
            text.append(x.most(k)).append(' ').append(x.classes(k)).append(' ').append(x.crossing(k)).append(' ');
            for (int e = 0; e < 24; e++) {
                text.append(x.forest(k, e)).append(' ');
            }
            for (int v = 1; v < 10; v++) {
                text.append(x.tight(k, 0, v)).append(' ');
            }
            for (int e = 12; e < 24; e++) {
                text.append(x.why(k, e, -1)).append(' ');
            }
        }
        return text.append(x.arboricity()).append(' ').append(x.dense()).append(' ').append(x.spanning()).toString();
    }

    private static void need(String call, int got, int want) {
        if (got != want) {
            System.out.println("a graph cannot be built: " + call + " answered " + got + ", due is " + want);
            System.exit(1);
        }
    }
}
