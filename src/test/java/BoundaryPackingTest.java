/** Promises 5 to 8, what k forests hold: a test for each sentence that names a boundary case. */
public final class BoundaryPackingTest {

    private static final int NONE = -1;
    private static final int BAD = -2;
    private static final int FULL = -3;
    private static final int MIN = Integer.MIN_VALUE;
    private static final int MAX = Integer.MAX_VALUE;
    private static final int[] NO_K = {-1, -2, -8, 7, 8, 32, 33, 38, 256, MAX, MIN, MIN + 1};

    /** 32 .. 55 and their like would be edges if only the last bits of a number counted. */
    private static final int[] NO_EDGE = {BAD, FULL, -8, -32, 24, 25, 31, 32, 33, 55, 64, 256, MAX, MIN, MIN + 1};

    private static final Due due = new Due();

    public static void main(String[] args) {
        mostWithoutForests();
        mostWithoutEdges();
        mostOfParallels();
        mostOfARing();
        mostWithForestsToSpare();
        mostJustFull();
        mostBad();
        mostAfterChanges();
        heldOneOrZero();
        heldEdgeZeroRatherThanNot();
        heldByLesserNumbers();
        heldNone();
        heldBad();
        heldBadBeforeNone();
        forestFirstAndLast();
        forestLeastNumbers();
        forestLeavesPlaceForLaterOnes();
        forestAfterChanges();
        forestSomeWithoutEdges();
        forestNotHeld();
        forestNone();
        forestBad();
        forestBadBeforeNone();
        forestChangesNothing();
        whyCount();
        whyItself();
        whyTakesThePlace();
        whyOnlyHeldOnes();
        whyWithoutForests();
        whyOfHeld();
        whyNoSuchE();
        whyNoSuchF();
        whyHeldAndNoSuchF();
        whyBad();
        whyBadBeforeNone();
        due.end();
    }

    private static void mostWithoutForests() {
        due.sentence("Terms", "A set FITS k (0 .. 6): no forests hold nothing");
        due.is("most 0 of one", Graphs.graph(2, 1).most(0), 0);
        due.is("most 0 of 24", Graphs.wide().most(0), 0);
        due.is("held by 0", Graphs.graph(2, 1).held(0, 0), 0);
        due.is("forest of 0", Graphs.graph(2, 1).forest(0, 0), NONE);
    }

    private static void mostWithoutEdges() {
        due.sentence("Promise 5", "MOST(k). (without edges)");
        for (int k = 0; k <= 6; k++) {
            due.is("new, most " + k, new ForestPacker().most(k), 0);
            due.is("ten vertices, most " + k, Graphs.graph(10).most(k), 0);
        }
    }

    private static void mostOfParallels() {
        due.sentence("Terms", "no way round in it (two that join the same two vertices are one)");
        due.is("two, most 1", Graphs.parallels(2).most(1), 1);
        due.is("two, most 2", Graphs.parallels(2).most(2), 2);
        for (int k = 0; k <= 6; k++) {
            due.is("24, most " + k, Graphs.parallels(24).most(k), k);
        }
    }

    private static void mostOfARing() {
        due.sentence("Terms", "A set of edges is a FOREST if there is no way round in it");
        due.is("way of ten", Graphs.graph(10, 1, 12, 23, 34, 45, 56, 67, 78, 89).most(1), 9);
        ForestPacker ring = Graphs.graph(10, 1, 12, 23, 34, 45, 56, 67, 78, 89, 90);
        due.is("ring of ten, most 1", ring.most(1), 9);
        due.is("ring of ten, most 2", ring.most(2), 10);
        due.is("triangle", Graphs.graph(3, 1, 12, 2).most(1), 2);
        due.is("two triangles", Graphs.graph(6, 1, 12, 2, 34, 45, 35).most(1), 4);
    }

    private static void mostWithForestsToSpare() {
        due.sentence("Terms", "parted into k FORESTS (some perhaps without edges)");
        ForestPacker x = Graphs.graph(10, 9);
        for (int k = 1; k <= 6; k++) {
            due.is("one edge, most " + k, x.most(k), 1);
        }
        due.is("24 that fit 3, most 6", Graphs.wide().most(6), 24);
    }

    private static void mostJustFull() {
        due.sentence("Promise 5", "MOST(k). (k trees that are just full)");
        for (int k = 0; k <= 6; k++) {
            due.is("six trees, most " + k, Graphs.sixTrees().most(k), 4 * k);
        }
        for (int k = 0; k <= 2; k++) {
            due.is("K4, most " + k, Graphs.k4().most(k), 3 * k);
        }
        due.is("K4, most 3", Graphs.k4().most(3), 6);
    }

    private static void mostBad() {
        due.sentence("Promise 5", "BAD: k.");
        for (int k : NO_K) {
            due.is("most " + k, Graphs.k4().most(k), BAD);
            due.is("new, most " + k, new ForestPacker().most(k), BAD);
        }
    }

    private static void mostAfterChanges() {
        due.sentence("Promise 5", "MOST(k). (of the edges there are now)");
        ForestPacker x = Graphs.graph(2);
        for (int count = 1; count <= 24; count++) {
            due.is("join", x.join(0, 1), count - 1);
            due.is("most of " + count, x.most(6), Math.min(6, count));
        }
        for (int count = 23; count >= 0; count--) {
            due.is("cut", x.cut(count), 1);
            due.is("most of " + count, x.most(6), Math.min(6, count));
        }
        due.is("join", x.join(0, 1), 0);
        due.is("most before begin", x.most(3), 1);
        due.is("begin", x.begin(2), 1);
        due.is("most after begin", x.most(3), 0);
    }

    private static void heldOneOrZero() {
        due.sentence("Promise 6", "Whether an EDGE is HELD by k (1 or 0).");
        ForestPacker x = Graphs.parallels(24);
        for (int k = 0; k <= 6; k++) {
            for (int e = 0; e < 24; e++) {
                due.is("held " + k + " " + e, x.held(k, e), e < k ? 1 : 0);
            }
        }
    }

    private static void heldEdgeZeroRatherThanNot() {
        due.sentence("Terms", "the one that has edge 0 rather than not, then edge 1 rather than not, and so on");
        ForestPacker x = Graphs.graph(3, 1, 12, 2);
        due.is("edge 0", x.held(1, 0), 1);
        due.is("edge 1", x.held(1, 1), 1);
        due.is("the last of the ring", x.held(1, 2), 0);
        ForestPacker y = Graphs.parallels(24);
        due.is("cut 0", y.cut(0), 1);
        due.is("edge 1 then", y.held(1, 1), 1);
        due.is("a younger edge 0", y.join(0, 1), 0);
        due.is("number before age", y.held(1, 0), 1);
        due.is("edge 1 no longer", y.held(1, 1), 0);
    }

    private static void heldByLesserNumbers() {
        due.sentence("Terms", "HELD if it FITS k together with all HELD ones of lesser numbers");
        ForestPacker x = Graphs.graph(4, 1, 12, 2, 2, 23);
        due.is("closes the ring", x.held(1, 2), 0);
        due.is("closes it too", x.held(1, 3), 0);
        due.is("beside the ring", x.held(1, 4), 1);
        due.is("second forest", x.held(2, 3), 1);
        ForestPacker k4 = Graphs.k4();
        due.is("join", k4.join(0, 1), 6);
        due.is("the last that two forests hold", k4.held(2, 5), 1);
        due.is("the first that they do not", k4.held(2, 6), 0);
        due.is("three do", k4.held(3, 6), 1);
    }

    private static void heldNone() {
        due.sentence("Promise 6", "NONE: there is none such");
        ForestPacker x = Graphs.parallels(24);
        for (int k = 0; k <= 6; k++) {
            for (int e : NO_EDGE) {
                due.is("held " + k + " " + e, x.held(k, e), NONE);
            }
            due.is("held " + k + " -1", x.held(k, NONE), NONE);
        }
        due.is("cut", x.cut(0), 1);
        due.is("held gone one", x.held(6, 0), NONE);
        due.is("held in a new object", new ForestPacker().held(6, 0), NONE);
    }

    private static void heldBad() {
        due.sentence("Promise 6", "BAD: k");
        for (int k : NO_K) {
            due.is("held " + k, Graphs.k4().held(k, 0), BAD);
        }
    }

    private static void heldBadBeforeNone() {
        due.sentence("Promise 6", "BAD, before that: k.");
        for (int k : NO_K) {
            due.is("held, free number", Graphs.k4().held(k, 6), BAD);
            due.is("held, no number", Graphs.k4().held(k, 24), BAD);
            due.is("held, NONE", Graphs.k4().held(k, NONE), BAD);
            due.is("held, no edges", new ForestPacker().held(k, 0), BAD);
        }
    }

    private static void forestFirstAndLast() {
        due.sentence("Terms", "FORESTS 0 .. k - 1");
        for (int k = 1; k <= 6; k++) {
            ForestPacker x = Graphs.parallels(24);
            due.is("first of " + k, x.forest(k, 0), 0);
            due.is("last of " + k, x.forest(k, k - 1), k - 1);
            due.is("no more than " + k, x.forest(k, k), NONE);
        }
    }

    private static void forestLeastNumbers() {
        due.sentence("Terms", "that in which edge 0 has the least number, then edge 1, and so on");
        ForestPacker x = Graphs.graph(4, 1, 1, 12, 12, 23, 2);
        forestsAre("in 3", x, 3, 0, 1, 0, 1, 0, 2);
        forestsAre("in 6", x, 6, 0, 1, 0, 1, 0, 2);
        due.is("cut 0", x.cut(0), 1);
        due.is("edge 1 is first then", x.forest(3, 1), 0);
        due.is("join", x.join(0, 1), 0);
        due.is("edge 0 is first again", x.forest(3, 0), 0);
        due.is("edge 1 is second again", x.forest(3, 1), 1);
    }

    private static void forestLeavesPlaceForLaterOnes() {
        due.sentence("Terms", "of all ways to part what is HELD: an early edge gives way for a later one");
        // edge 2 in forest 0 would leave 12, 13 and 23, a ring, to forest 1
        ForestPacker x = Graphs.k4();
        forestsAre("K4 in 2", x, 2, 0, 0, 1, 1, 0, 1);
        forestsAre("K4 in 3", x, 3, 0, 0, 0, 1, 1, 2);
        // three that join 0 and 3 need all three forests, so 23 and 02 may not share one
        forestsAre("three 03 in 3", Graphs.graph(4, 23, 2, 3, 3, 3), 3, 0, 1, 0, 1, 2);
        // 02 twice and 23 leave 13 no place in forest 0; edge 0 itself moves while they are packed
        forestsAre("two trees in 2", Graphs.graph(4, 10, 13, 3, 2, 23, 20), 2, 0, 1, 0, 0, 1, 1);
        forestsAre("three 01 in 3", Graphs.graph(4, 3, 13, 1, 1, 3, 1), 3, 0, 1, 0, 1, 2, 2);
    }

    private static void forestAfterChanges() {
        due.sentence("Promise 7", "Which of the FORESTS of k (of the edges there are now)");
        ForestPacker x = Graphs.k4();
        forestsAre("K4", x, 2, 0, 0, 1, 1, 0, 1);
        due.is("cut", x.cut(5), 23);
        forestsAre("without 23", x, 2, 0, 0, 0, 1, 1, NONE);
        due.is("join", x.join(3, 2), 5);
        forestsAre("with it again", x, 2, 0, 0, 1, 1, 0, 1);
        due.is("begin", x.begin(4), 6);
        due.is("join", x.join(0, 1), 0);
        forestsAre("begun anew", x, 2, 0, NONE);
    }

    private static void forestsAre(String what, ForestPacker x, int k, int... want) {
        for (int e = 0; e < want.length; e++) {
            due.is(what + ", edge " + e, x.forest(k, e), want[e]);
        }
    }

    private static void forestSomeWithoutEdges() {
        due.sentence("Terms", "parted into k FORESTS (some perhaps without edges): all in the first");
        ForestPacker x = Graphs.graph(10, 89, 78, 67, 56, 45, 34, 23, 12, 1);
        for (int k = 1; k <= 6; k++) {
            for (int e = 0; e < 9; e++) {
                due.is("forest " + k + " " + e, x.forest(k, e), 0);
            }
        }
    }

    private static void forestNotHeld() {
        due.sentence("Promise 7", "NONE: it is not HELD");
        ForestPacker x = Graphs.parallels(24);
        for (int k = 0; k <= 6; k++) {
            due.is("forest " + k + ", the next", x.forest(k, k), NONE);
            due.is("forest " + k + ", the last", x.forest(k, 23), NONE);
        }
    }

    private static void forestNone() {
        due.sentence("Promise 7", "NONE: .. or there is none such.");
        ForestPacker x = Graphs.parallels(24);
        for (int k = 0; k <= 6; k++) {
            for (int e : NO_EDGE) {
                due.is("forest " + k + " " + e, x.forest(k, e), NONE);
            }
            due.is("forest " + k + " -1", x.forest(k, NONE), NONE);
        }
        due.is("forest before", x.forest(6, 3), 3);
        due.is("cut", x.cut(3), 1);
        due.is("forest of the gone one", x.forest(6, 3), NONE);
        due.is("forest in a new object", new ForestPacker().forest(6, 0), NONE);
    }

    private static void forestBad() {
        due.sentence("Promise 7", "BAD: k");
        for (int k : NO_K) {
            due.is("forest " + k, Graphs.k4().forest(k, 0), BAD);
        }
    }

    private static void forestBadBeforeNone() {
        due.sentence("Promise 7", "BAD, before that: k.");
        for (int k : NO_K) {
            due.is("forest, free number", Graphs.k4().forest(k, 6), BAD);
            due.is("forest, no number", Graphs.k4().forest(k, 24), BAD);
            due.is("forest, NONE", Graphs.k4().forest(k, NONE), BAD);
            due.is("forest, never held", Graphs.parallels(24).forest(k, 23), BAD);
            due.is("forest, no edges", new ForestPacker().forest(k, 0), BAD);
        }
    }

    private static void forestChangesNothing() {
        due.sentence("Promise 7", "Which of the FORESTS (a question changes nothing)");
        ForestPacker x = Graphs.k4();
        due.is("why before", x.why(1, 5, NONE), 3);
        due.is("forest", x.forest(2, 2), 1);
        due.is("forest", x.forest(1, 2), 0);
        due.is("why after", x.why(1, 5, NONE), 3);
        due.is("all is as before", Graphs.all(x).equals(Graphs.all(Graphs.k4())) ? 1 : 0, 1);
    }

    private static void whyCount() {
        due.sentence("Promise 8", "how many edges that set has (f = NONE)");
        for (int k = 0; k <= 6; k++) {
            due.is("parallels in " + k, Graphs.parallels(24).why(k, 23, NONE), k + 1);
        }
        due.is("ring of ten", Graphs.graph(10, 1, 12, 23, 34, 45, 56, 67, 78, 89, 90).why(1, 9, NONE), 10);
        due.is("six trees in 5", Graphs.sixTrees().why(5, 23, NONE), 21);
        due.is("f = -2 asks for no count", Graphs.parallels(24).why(1, 23, -2), NONE);
    }

    private static void whyItself() {
        due.sentence("Terms", "the set of itself and ..");
        ForestPacker x = Graphs.parallels(24);
        for (int k = 0; k <= 6; k++) {
            due.is("23 in " + k, x.why(k, 23, 23), 1);
            due.is("first that is not held by " + k, x.why(k, k, k), 1);
        }
    }

    private static void whyTakesThePlace() {
        due.sentence("Terms", "all HELD edges of which it could take the place");
        ForestPacker x = Graphs.graph(5, 1, 12, 23, 2, 34);
        int[] ring = {1, 1, 0, 1, 0};
        for (int f = 0; f < 5; f++) {
            due.is("edge " + f + " of the ring", x.why(1, 3, f), ring[f]);
        }
        // the second 12 may take the place of any edge that makes way through either forest
        ForestPacker y = Graphs.graph(4, 1, 12, 2, 1, 23, 12, 2);
        int[] both = {1, 1, 1, 1, 0, 1, 0};
        for (int f = 0; f < 7; f++) {
            due.is("edge " + f + " of both forests", y.why(2, 5, f), both[f]);
        }
        due.is("how many", y.why(2, 5, NONE), 5);
    }

    private static void whyOnlyHeldOnes() {
        due.sentence("Terms", "all HELD edges: one that is not HELD is in the set of no other");
        ForestPacker x = Graphs.parallels(24);
        for (int f = 0; f < 24; f++) {
            due.is("23 and " + f, x.why(6, 23, f), f < 6 || f == 23 ? 1 : 0);
            due.is("6 and " + f, x.why(6, 6, f), f <= 6 ? 1 : 0);
        }
    }

    private static void whyWithoutForests() {
        due.sentence("Promise 8", "WHY an EDGE e is not HELD by k (k = 0)");
        ForestPacker x = Graphs.k4();
        for (int e = 0; e < 6; e++) {
            due.is("count of " + e, x.why(0, e, NONE), 1);
            for (int f = 0; f < 6; f++) {
                due.is("whether " + e + " has " + f, x.why(0, e, f), e == f ? 1 : 0);
            }
        }
    }

    private static void whyOfHeld() {
        due.sentence("Promise 8", "NONE: e is HELD");
        ForestPacker x = Graphs.parallels(24);
        for (int k = 1; k <= 6; k++) {
            due.is("first, count", x.why(k, 0, NONE), NONE);
            due.is("last held, count", x.why(k, k - 1, NONE), NONE);
            due.is("last held, itself", x.why(k, k - 1, k - 1), NONE);
            due.is("last held, not held f", x.why(k, k - 1, 23), NONE);
        }
    }

    private static void whyNoSuchE() {
        due.sentence("Promise 8", "NONE: .. there is no such e");
        ForestPacker x = Graphs.parallels(24);
        for (int e : NO_EDGE) {
            due.is("count, e " + e, x.why(1, e, NONE), NONE);
            due.is("whether, e " + e, x.why(1, e, 0), NONE);
            due.is("itself, e " + e, x.why(1, e, e), NONE);
            due.is("no forest, e " + e, x.why(0, e, NONE), NONE);
        }
        due.is("e = NONE", x.why(1, NONE, NONE), NONE);
        due.is("e = NONE, f", x.why(1, NONE, 0), NONE);
        due.is("cut", x.cut(23), 1);
        due.is("gone", x.why(1, 23, NONE), NONE);
        due.is("new object", new ForestPacker().why(0, 0, NONE), NONE);
    }

    private static void whyNoSuchF() {
        due.sentence("Promise 8", "NONE: .. or no such f");
        ForestPacker x = Graphs.parallels(24);
        for (int f : NO_EDGE) {
            due.is("f " + f, x.why(1, 23, f), NONE);
            due.is("no forest, f " + f, x.why(0, 23, f), NONE);
        }
        due.is("before", x.why(1, 23, 0), 1);
        due.is("cut", x.cut(0), 1);
        due.is("gone", x.why(1, 23, 0), NONE);
        due.is("free number", Graphs.k4().why(1, 5, 6), NONE);
    }

    private static void whyHeldAndNoSuchF() {
        due.sentence("Promise 8", "NONE: e is HELD, .. or no such f (both)");
        for (int f : NO_EDGE) {
            due.is("f " + f, Graphs.parallels(2).why(2, 0, f), NONE);
        }
    }

    private static void whyBad() {
        due.sentence("Promise 8", "BAD: k");
        for (int k : NO_K) {
            due.is("count, k " + k, Graphs.parallels(24).why(k, 23, NONE), BAD);
            due.is("whether, k " + k, Graphs.parallels(24).why(k, 23, 0), BAD);
        }
    }

    private static void whyBadBeforeNone() {
        due.sentence("Promise 8", "BAD, before that: k.");
        for (int k : NO_K) {
            due.is("no such e", Graphs.k4().why(k, 6, NONE), BAD);
            due.is("no such f", Graphs.k4().why(k, 5, 6), BAD);
            due.is("neither", Graphs.k4().why(k, 24, 24), BAD);
            due.is("always held", Graphs.k4().why(k, 0, NONE), BAD);
            due.is("no edges", new ForestPacker().why(k, 0, NONE), BAD);
        }
    }
}
