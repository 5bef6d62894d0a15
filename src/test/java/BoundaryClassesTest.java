/** Promises 9 to 14, what the forests show: a test for each sentence that names a boundary case. */
public final class BoundaryClassesTest {

    private static final int NONE = -1;
    private static final int BAD = -2;
    private static final int MIN = Integer.MIN_VALUE;
    private static final int MAX = Integer.MAX_VALUE;
    private static final int[] NO_K = {-1, -2, -8, 7, 8, 32, 33, 38, 256, MAX, MIN, MIN + 1};
    private static final int[] NO_VERTEX = {-1, -2, -32, 10, 11, 31, 32, 33, 64, 256, MAX, MIN, MIN + 1};

    private static final Due due = new Due();

    public static void main(String[] args) {
        tightOneOrZero();
        tightWithItself();
        tightWithoutForests();
        tightOfAFullGraph();
        tightBadK();
        tightBadVertices();
        tightBadVertexOfAGreaterGraph();
        tightBadVertexTwice();
        tightChangesNothing();
        classesAllApart();
        classesAllOne();
        classesBetween();
        classesWithoutForests();
        classesBad();
        crossingWithoutEdges();
        crossingAll();
        crossingNone();
        crossingSome();
        crossingWithoutForests();
        crossingBad();
        arboricityWithoutEdges();
        arboricityFromOneToSix();
        arboricityAboveSix();
        arboricityOfAFullGraph();
        denseWithoutEdges();
        denseOfOneForest();
        denseFirstNotHeld();
        denseFirstAndLastBit();
        denseAboveSix();
        denseOfSix();
        spanningOneVertex();
        spanningNone();
        spanningUpToSix();
        spanningJustFull();
        due.end();
    }

    private static void tightOneOrZero() {
        due.sentence("Promise 9", "Whether two vertices are TIGHT in k (1 or 0).");
        for (int count = 0; count <= 24; count++) {
            ForestPacker x = Graphs.parallels(count);
            for (int k = 0; k <= 6; k++) {
                due.is(count + " parallels in " + k, x.tight(k, 0, 1), count >= k ? 1 : 0);
                due.is(count + " parallels in " + k + ", turned round", x.tight(k, 1, 0), count >= k ? 1 : 0);
            }
        }
        due.is("through others", Graphs.graph(10, 1, 12, 23, 34, 45, 56, 67, 78, 89).tight(1, 0, 9), 1);
        due.is("one link lacks", Graphs.graph(10, 1, 12, 23, 34, 56, 67, 78, 89).tight(1, 0, 9), 0);
    }

    private static void tightWithItself() {
        due.sentence("Terms", "(also each with itself)");
        for (int k = 0; k <= 6; k++) {
            due.is("the one vertex in " + k, new ForestPacker().tight(k, 0, 0), 1);
            for (int v = 0; v < 10; v++) {
                due.is("without edges in " + k, Graphs.graph(10).tight(k, v, v), 1);
            }
            due.is("with edges in " + k, Graphs.k4().tight(k, 3, 3), 1);
        }
    }

    private static void tightWithoutForests() {
        due.sentence("Terms", "would leave MOST(k) as it is (k = 0)");
        due.is("without edges", Graphs.graph(10).tight(0, 0, 9), 1);
        due.is("with edges", Graphs.wide().tight(0, 9, 4), 1);
    }

    private static void tightOfAFullGraph() {
        due.sentence("Terms", "one edge more that joins them (also if there are 24)");
        ForestPacker x = Graphs.sixTrees();
        ForestPacker y = Graphs.wide();
        for (int a = 0; a < 5; a++) {
            for (int b = 0; b < 5; b++) {
                due.is("six trees " + a + " " + b, x.tight(6, a, b), 1);
                due.is("wide " + a + " " + b, y.tight(6, a, b), a == b ? 1 : 0);
            }
        }
        due.is("cut", x.cut(0), 1);
        due.is("room for one", x.tight(6, 3, 4), 0);
    }

    private static void tightBadK() {
        due.sentence("Promise 9", "BAD: k");
        for (int k : NO_K) {
            due.is("k " + k, Graphs.k4().tight(k, 0, 1), BAD);
            due.is("itself, k " + k, Graphs.k4().tight(k, 0, 0), BAD);
            due.is("new object, k " + k, new ForestPacker().tight(k, 0, 0), BAD);
        }
    }

    private static void tightBadVertices() {
        due.sentence("Promise 9", "BAD: .. or no such vertices.");
        ForestPacker x = Graphs.wide();
        for (int v : NO_VERTEX) {
            due.is("first " + v, x.tight(1, v, 0), BAD);
            due.is("second " + v, x.tight(1, 0, v), BAD);
            due.is("no forest, first " + v, x.tight(0, v, 9), BAD);
            due.is("no forest, second " + v, x.tight(0, 9, v), BAD);
            due.is("and no such k", x.tight(7, 0, v), BAD);
        }
        due.is("first and last are such", x.tight(1, 0, 9), 1);
    }

    private static void tightBadVertexOfAGreaterGraph() {
        due.sentence("Promise 9", "no such vertices [0 .. n - 1]");
        for (int n = 1; n <= 9; n++) {
            ForestPacker x = Graphs.wide();
            due.is("begin", x.begin(n), 24);
            due.is("n of " + n, x.tight(1, n, 0), BAD);
            due.is("n of " + n, x.tight(1, 0, n), BAD);
            due.is("9 of " + n, x.tight(1, 9, 9), BAD);
            due.is("n - 1 of " + n, x.tight(1, n - 1, 0), n == 1 ? 1 : 0);
        }
    }

    private static void tightBadVertexTwice() {
        due.sentence("Promise 9", "no such vertices (though the same)");
        for (int v : NO_VERTEX) {
            due.is("twice " + v, Graphs.wide().tight(6, v, v), BAD);
            due.is("no forest, twice " + v, Graphs.wide().tight(0, v, v), BAD);
        }
        due.is("in a new object", new ForestPacker().tight(6, 1, 1), BAD);
    }

    private static void tightChangesNothing() {
        due.sentence("Promise 9", "one edge more (is only thought of)");
        ForestPacker x = Graphs.k4();
        due.is("not tight", x.tight(3, 0, 1), 0);
        due.is("not tight again", x.tight(3, 0, 1), 0);
        due.is("tight", x.tight(2, 0, 1), 1);
        due.is("refused", x.tight(2, 0, 4), BAD);
        due.is("all is as before", Graphs.all(x).equals(Graphs.all(Graphs.k4())) ? 1 : 0, 1);
    }

    private static void classesAllApart() {
        due.sentence("Promise 10", "How many CLASSES there are. (each vertex alone)");
        for (int n = 1; n <= 10; n++) {
            for (int k = 1; k <= 6; k++) {
                due.is(n + " without edges in " + k, Graphs.graph(n).classes(k), n);
            }
        }
        due.is("24 edges in 6", Graphs.wide().classes(6), 10);
        due.is("K4 in 3", Graphs.k4().classes(3), 4);
    }

    private static void classesAllOne() {
        due.sentence("Promise 10", "How many CLASSES there are. (all in one)");
        due.is("one vertex", new ForestPacker().classes(6), 1);
        due.is("K4 in 2", Graphs.k4().classes(2), 1);
        due.is("six trees in 6", Graphs.sixTrees().classes(6), 1);
        due.is("way of ten in 1", Graphs.graph(10, 1, 12, 23, 34, 45, 56, 67, 78, 89).classes(1), 1);
    }

    private static void classesBetween() {
        due.sentence("Terms", "those that are TIGHT with one another are a CLASS");
        due.is("the last vertex alone", Graphs.graph(3, 1).classes(1), 2);
        due.is("the first vertex alone", Graphs.graph(3, 12).classes(1), 2);
        due.is("two pairs full, one edge between", Graphs.graph(4, 2, 2, 13, 13, 1).classes(2), 2);
        due.is("two edges between", Graphs.graph(4, 2, 2, 13, 13, 1, 23).classes(2), 1);
        due.is("five pairs", Graphs.graph(10, 9, 18, 27, 36, 45).classes(1), 5);
    }

    private static void classesWithoutForests() {
        due.sentence("Promise 10", "How many CLASSES there are. (k = 0)");
        for (int n = 1; n <= 10; n++) {
            due.is(n + " vertices", Graphs.graph(n).classes(0), 1);
        }
        due.is("24 edges", Graphs.wide().classes(0), 1);
    }

    private static void classesBad() {
        due.sentence("Promise 10", "BAD: k.");
        for (int k : NO_K) {
            due.is("k " + k, Graphs.k4().classes(k), BAD);
            due.is("new object, k " + k, new ForestPacker().classes(k), BAD);
        }
    }

    private static void crossingWithoutEdges() {
        due.sentence("Promise 11", "How many edges are CROSSING. (without edges)");
        for (int k = 0; k <= 6; k++) {
            due.is("new object in " + k, new ForestPacker().crossing(k), 0);
            due.is("ten vertices in " + k, Graphs.graph(10).crossing(k), 0);
        }
    }

    private static void crossingAll() {
        due.sentence("Promise 11", "How many edges are CROSSING. (all)");
        due.is("24 in 6", Graphs.wide().crossing(6), 24);
        due.is("K4 in 3", Graphs.k4().crossing(3), 6);
        due.is("one in 2", Graphs.graph(2, 1).crossing(2), 1);
    }

    private static void crossingNone() {
        due.sentence("Promise 11", "How many edges are CROSSING. (none)");
        due.is("six trees in 6", Graphs.sixTrees().crossing(6), 0);
        due.is("24 parallels in 6", Graphs.parallels(24).crossing(6), 0);
        due.is("one in 1", Graphs.graph(2, 1).crossing(1), 0);
        due.is("any in 1", Graphs.wide().crossing(1), 0);
    }

    private static void crossingSome() {
        due.sentence("Terms", "CROSSING: edges that join vertices of different CLASSES");
        ForestPacker x = Graphs.graph(4, 2, 2, 13, 13, 1, 2);
        due.is("one between two pairs", x.crossing(2), 1);
        due.is("another", x.join(3, 2), 6);
        due.is("the two make them one", x.crossing(2), 0);
        due.is("cut the first", x.cut(4), 1);
        due.is("the other is crossing", x.crossing(2), 1);
    }

    private static void crossingWithoutForests() {
        due.sentence("Promise 11", "How many edges are CROSSING. (k = 0)");
        due.is("24", Graphs.wide().crossing(0), 0);
        due.is("one", Graphs.graph(2, 1).crossing(0), 0);
    }

    private static void crossingBad() {
        due.sentence("Promise 11", "BAD: k.");
        for (int k : NO_K) {
            due.is("k " + k, Graphs.k4().crossing(k), BAD);
            due.is("new object, k " + k, new ForestPacker().crossing(k), BAD);
        }
    }

    private static void arboricityWithoutEdges() {
        due.sentence("Promise 12", "ARBORICITY: the least k (0 without edges)");
        due.is("new object", new ForestPacker().arboricity(), 0);
        due.is("ten vertices", Graphs.graph(10).arboricity(), 0);
        ForestPacker x = Graphs.parallels(1);
        due.is("one edge", x.arboricity(), 1);
        due.is("cut", x.cut(0), 1);
        due.is("none again", x.arboricity(), 0);
    }

    private static void arboricityFromOneToSix() {
        due.sentence("Promise 12", "the least k up to 6 for which all edges FIT k");
        for (int count = 1; count <= 6; count++) {
            due.is("parallels " + count, Graphs.parallels(count).arboricity(), count);
        }
        due.is("K4 is just two trees", Graphs.k4().arboricity(), 2);
        due.is("and one edge more", Graphs.graph(4, 1, 2, 3, 12, 13, 23, 23).arboricity(), 3);
        due.is("way of ten", Graphs.graph(10, 1, 12, 23, 34, 45, 56, 67, 78, 89).arboricity(), 1);
        due.is("ring of ten", Graphs.graph(10, 1, 12, 23, 34, 45, 56, 67, 78, 89, 90).arboricity(), 2);
    }

    private static void arboricityAboveSix() {
        due.sentence("Promise 12", "NONE: it is above 6.");
        for (int count = 7; count <= 24; count++) {
            due.is("parallels " + count, Graphs.parallels(count).arboricity(), NONE);
        }
        ForestPacker x = Graphs.parallels(7);
        due.is("one goes", x.cut(0), 1);
        due.is("six", x.arboricity(), 6);
        due.is("one comes", x.join(0, 1), 0);
        due.is("seven", x.arboricity(), NONE);
        due.is("a crowded part", Graphs.graph(10, 1, 1, 1, 1, 1, 1, 1, 12, 23).arboricity(), NONE);
    }

    private static void arboricityOfAFullGraph() {
        due.sentence("Promise 12", "the least k up to 6 (24 edges)");
        due.is("six trees", Graphs.sixTrees().arboricity(), 6);
        due.is("wide", Graphs.wide().arboricity(), 3);
    }

    private static void denseWithoutEdges() {
        due.sentence("Promise 13", "0 without edges");
        due.is("new object", new ForestPacker().dense(), 0);
        due.is("ten vertices", Graphs.graph(10).dense(), 0);
        ForestPacker x = Graphs.parallels(7);
        due.is("begin", x.begin(2), 7);
        due.is("after begin", x.dense(), 0);
    }

    private static void denseOfOneForest() {
        due.sentence("Terms", "(if a is 1: both vertices of the first edge)");
        due.is("one edge", Graphs.graph(2, 1).dense(), 3);
        ForestPacker x = Graphs.graph(10, 89, 1, 12, 34);
        due.is("edge 0", x.dense(), 768);
        due.is("cut 0", x.cut(0), 89);
        due.is("edge 1", x.dense(), 3);
        due.is("a younger edge 0", x.join(7, 5), 0);
        due.is("edge 0 again", x.dense(), 160);
        ForestPacker y = Graphs.parallels(24);
        for (int e = 0; e < 23; e++) {
            due.is("cut " + e, y.cut(e), 1);
        }
        due.is("only edge 23", y.dense(), 3);
    }

    private static void denseFirstNotHeld() {
        due.sentence("Terms", "the edges that are WHY the first edge that is not HELD by a - 1 is not");
        due.is("the first of two rings", Graphs.graph(6, 34, 45, 53, 1, 12, 2).dense(), 56);
        due.is("the ring that closes first", Graphs.graph(6, 34, 45, 1, 12, 2, 53).dense(), 7);
        due.is("not the tail", Graphs.graph(5, 34, 23, 1, 12, 2).dense(), 7);
        // what two forests do not hold counts, not what one does not hold
        due.is("a - 1 forests, not fewer", Graphs.graph(6, 1, 12, 2, 34, 34, 34).dense(), 24);
    }

    private static void denseFirstAndLastBit() {
        due.sentence("Promise 13", "DENSE, as bits");
        due.is("0 and 9", Graphs.graph(10, 90).dense(), 513);
        due.is("all ten", Graphs.graph(10, 1, 12, 23, 34, 45, 56, 67, 78, 89, 90).dense(), 1023);
    }

    private static void denseAboveSix() {
        due.sentence("Promise 13", "NONE: ARBORICITY is above 6.");
        due.is("seven", Graphs.parallels(7).dense(), NONE);
        due.is("24", Graphs.parallels(24).dense(), NONE);
        ForestPacker x = Graphs.parallels(7);
        due.is("cut", x.cut(6), 1);
        due.is("six", x.dense(), 3);
    }

    private static void denseOfSix() {
        due.sentence("Promise 13", "DENSE (a = 6)");
        due.is("six parallels", Graphs.parallels(6).dense(), 3);
        due.is("six trees", Graphs.sixTrees().dense(), 31);
    }

    private static void spanningOneVertex() {
        due.sentence("Terms", "the greatest k up to 6 for which MOST(k) is k times n - 1 (n = 1)");
        due.is("new object", new ForestPacker().spanning(), 6);
        due.is("begin 1", Graphs.graph(1).spanning(), 6);
        ForestPacker x = Graphs.parallels(24);
        due.is("begin", x.begin(1), 24);
        due.is("begin 1 after edges", x.spanning(), 6);
    }

    private static void spanningNone() {
        due.sentence("Promise 14", "SPANNING. (no tree: 0, not NONE)");
        for (int n = 2; n <= 10; n++) {
            due.is(n + " without edges", Graphs.graph(n).spanning(), 0);
        }
        due.is("a vertex alone", Graphs.graph(3, 1, 1, 1, 1, 1, 1).spanning(), 0);
        due.is("one link lacks", Graphs.graph(10, 1, 12, 23, 34, 56, 67, 78, 89, 79, 68).spanning(), 0);
    }

    private static void spanningUpToSix() {
        due.sentence("Terms", "the greatest k up to 6");
        for (int count = 0; count <= 24; count++) {
            due.is("parallels " + count, Graphs.parallels(count).spanning(), Math.min(6, count));
        }
    }

    private static void spanningJustFull() {
        due.sentence("Promise 14", "SPANNING. (trees that are just full, and one edge less)");
        ForestPacker x = Graphs.sixTrees();
        due.is("six trees", x.spanning(), 6);
        due.is("cut", x.cut(23), 4);
        due.is("five and a part", x.spanning(), 5);
        ForestPacker y = Graphs.k4();
        due.is("K4", y.spanning(), 2);
        due.is("cut", y.cut(0), 1);
        due.is("one and a part", y.spanning(), 1);
        ForestPacker z = Graphs.graph(10, 1, 12, 23, 34, 45, 56, 67, 78, 89);
        due.is("way of ten", z.spanning(), 1);
        due.is("cut", z.cut(8), 89);
        due.is("9 is alone", z.spanning(), 0);
    }
}
