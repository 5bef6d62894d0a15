/** Promises 1 to 4 and 15, what the graph is: a test for each sentence that names a boundary case. */
public final class BoundaryGraphTest {

    private static final int NONE = -1;
    private static final int BAD = -2;
    private static final int FULL = -3;
    private static final int MIN = Integer.MIN_VALUE;
    private static final int MAX = Integer.MAX_VALUE;

    /** 32 .. 55 and their like would be edges if only the last bits of a number counted. */
    private static final int[] NO_EDGE = {NONE, BAD, FULL, -8, -32, 24, 25, 31, 32, 33, 55, 64, 256, MAX, MIN, MIN + 1};
    private static final int[] NO_VERTEX = {-1, -2, -32, 10, 11, 31, 32, 33, 64, 256, MAX, MIN, MIN + 1};

    private static final Due due = new Due();

    public static void main(String[] args) {
        lastCall();
        constants();
        newObject();
        newObjectBesideAnother();
        beginVertices();
        beginNoEdges();
        beginCount();
        beginBad();
        beginRefusedChangesNothing();
        joinFirstAndLastNumber();
        joinLeastFree();
        joinAnyNumberOfParallels();
        joinNoSuchVertices();
        joinVertexOfAGreaterGraph();
        joinSameVertex();
        joinFull();
        joinBadBeforeFull();
        joinRefusedChangesNothing();
        joinAfterFull();
        cutAnswer();
        cutNone();
        cutTwice();
        cutEmpty();
        cutRefusedChangesNothing();
        cutOthersStay();
        toldEnds();
        toldNone();
        toldForAnyE();
        toldAmong();
        toldAmongAnyBits();
        toldBad();
        toldBadBeforeNone();
        due.end();
    }

    private static void lastCall() {
        due.sentence("What it is", "An object is used for at most 512 calls after it has been made");
        ForestPacker x = new ForestPacker();
        due.is("call 1", x.begin(2), 0);
        for (int call = 2; call < 500; call += 2) {
            due.is("call " + call, x.join(0, 1), 0);
            due.is("call " + (call + 1), x.cut(0), 1);
        }
        for (int call = 500; call <= 510; call++) {
            due.is("call " + call, x.join(1, 0), call - 500);
        }
        due.is("call 511", x.arboricity(), NONE);
        due.is("call 512", x.forest(6, 5), 5);
    }

    private static void constants() {
        due.sentence("The public face", "NONE = -1, BAD = -2, FULL = -3");
        due.is("NONE", ForestPacker.NONE, NONE);
        due.is("BAD", ForestPacker.BAD, BAD);
        due.is("FULL", ForestPacker.FULL, FULL);
    }

    private static void newObject() {
        due.sentence("Promise 1", "One vertex, no edges.");
        ForestPacker x = new ForestPacker();
        due.is("told vertices", x.told(0, 3), 1);
        due.is("told edges", x.told(0, 2), 0);
        due.is("vertex 0", x.tight(1, 0, 0), 1);
        due.is("no vertex 1", x.tight(1, 0, 1), BAD);
        due.is("join", x.join(0, 1), BAD);
        due.is("begin", new ForestPacker().begin(1), 0);
        for (int e = 0; e < 24; e++) {
            due.is("cut " + e, x.cut(e), NONE);
            due.is("told " + e, x.told(e, 0), NONE);
            due.is("held " + e, x.held(6, e), NONE);
        }
        for (int k = 0; k <= 6; k++) {
            due.is("most " + k, x.most(k), 0);
            due.is("classes " + k, x.classes(k), 1);
            due.is("crossing " + k, x.crossing(k), 0);
        }
        due.is("arboricity", x.arboricity(), 0);
        due.is("dense", x.dense(), 0);
        due.is("spanning", x.spanning(), 6);
    }

    private static void newObjectBesideAnother() {
        due.sentence("Promise 1", "One vertex, no edges. (whatever other objects have)");
        ForestPacker other = Graphs.sixTrees();
        due.is("most of the other", other.most(6), 24);
        ForestPacker x = new ForestPacker();
        due.is("edges", x.told(0, 2), 0);
        due.is("vertices", x.told(0, 3), 1);
        due.is("most", x.most(6), 0);
        due.is("begin", x.begin(3), 0);
        due.is("edges of the other", other.told(0, 2), 24);
        due.is("vertices of the other", other.told(0, 3), 5);
    }

    private static void beginVertices() {
        due.sentence("Promise 2", "n vertices [n being 1 .. 10]");
        for (int n = 1; n <= 10; n++) {
            ForestPacker x = new ForestPacker();
            due.is("begin " + n, x.begin(n), 0);
            due.is("vertices of " + n, x.told(0, 3), n);
            due.is("last vertex of " + n, x.tight(6, n - 1, n - 1), 1);
            due.is("no vertex more than " + n, x.tight(6, n, n), BAD);
            due.is("classes of " + n, x.classes(1), n);
        }
        ForestPacker x = Graphs.graph(10);
        due.is("from ten to one", x.begin(1), 0);
        due.is("one vertex", x.told(0, 3), 1);
        due.is("no other", x.join(0, 1), BAD);
        due.is("from one to ten", x.begin(10), 0);
        due.is("ten", x.join(9, 0), 0);
    }

    private static void beginNoEdges() {
        due.sentence("Promise 2", "and no edges");
        ForestPacker x = Graphs.sixTrees();
        due.is("held before", x.most(6), 24);
        due.is("begin", x.begin(5), 24);
        due.is("edges", x.told(0, 2), 0);
        for (int e = 0; e < 24; e++) {
            due.is("cut " + e, x.cut(e), NONE);
            due.is("held " + e, x.held(6, e), NONE);
        }
        due.is("held after", x.most(6), 0);
        due.is("arboricity", x.arboricity(), 0);
        due.is("dense", x.dense(), 0);
        due.is("spanning", x.spanning(), 0);
        due.is("numbers begin at 0", x.join(0, 1), 0);
        due.is("the same n", Graphs.all(x).equals(Graphs.all(Graphs.graph(5, 1))) ? 1 : 0, 1);
    }

    private static void beginCount() {
        due.sentence("Promise 2", "how many edges there were");
        for (int count : new int[] {0, 1, 2, 23, 24}) {
            ForestPacker x = Graphs.parallels(count);
            due.is("begin after " + count, x.begin(10), count);
            due.is("begin again", x.begin(10), 0);
        }
        ForestPacker x = Graphs.parallels(24);
        for (int e = 0; e < 23; e++) {
            due.is("cut " + e, x.cut(e), 1);
        }
        due.is("only edge 23 was there", x.begin(1), 1);
        ForestPacker y = Graphs.parallels(24);
        due.is("refused join", y.join(0, 1), FULL);
        due.is("a refused edge is none", y.begin(1), 24);
    }

    private static void beginBad() {
        due.sentence("Promise 2", "BAD: n.");
        for (int n : new int[] {0, -1, -2, -10, 11, 12, 17, 32, 33, 42, 256, 257, MAX, MIN, MIN + 1}) {
            due.is("begin " + n + " at first", new ForestPacker().begin(n), BAD);
            due.is("begin " + n + " of ten", Graphs.graph(10).begin(n), BAD);
        }
    }

    private static void beginRefusedChangesNothing() {
        due.sentence("Promise 2", "BAD: n. (a refused call changes nothing)");
        for (int n : new int[] {0, -1, 11, MAX, MIN}) {
            ForestPacker x = Graphs.wide();
            due.is("begin " + n, x.begin(n), BAD);
            due.is("all is as before", Graphs.all(x).equals(Graphs.all(Graphs.wide())) ? 1 : 0, 1);
        }
        ForestPacker fresh = new ForestPacker();
        due.is("begin 0", fresh.begin(0), BAD);
        due.is("still one vertex", fresh.told(0, 3), 1);
    }

    private static void joinFirstAndLastNumber() {
        due.sentence("Terms", "EDGES have numbers 0 .. 23");
        ForestPacker x = Graphs.graph(10);
        for (int e = 0; e < 24; e++) {
            due.is("join " + e, x.join(e % 10, (e + 1) % 10), e);
        }
        due.is("there is edge 0", x.told(0, 1), 1);
        due.is("there is edge 23", x.told(23, 0), 3);
        due.is("there is no edge 24", x.told(24, 0), NONE);
    }

    private static void joinLeastFree() {
        due.sentence("Promise 3", "its number, the least that is free");
        ForestPacker x = Graphs.parallels(24);
        due.is("cut 23", x.cut(23), 1);
        due.is("23 again", x.join(0, 1), 23);
        due.is("cut 0", x.cut(0), 1);
        due.is("0 again", x.join(0, 1), 0);
        due.is("cut 12", x.cut(12), 1);
        due.is("cut 7", x.cut(7), 1);
        due.is("cut 20", x.cut(20), 1);
        due.is("7 first", x.join(0, 1), 7);
        due.is("12 then", x.join(0, 1), 12);
        due.is("20 last", x.join(0, 1), 20);
        due.is("none is free", x.join(0, 1), FULL);
    }

    private static void joinAnyNumberOfParallels() {
        due.sentence("Terms", "any number may join the same two");
        ForestPacker x = Graphs.graph(2);
        for (int e = 0; e < 24; e++) {
            due.is("join", x.join(1, 0), e);
        }
        due.is("all join 0 and 1", x.told(3, 4), 24);
    }

    private static void joinNoSuchVertices() {
        due.sentence("Promise 3", "BAD: no such vertices");
        ForestPacker x = Graphs.graph(10);
        for (int v : NO_VERTEX) {
            due.is("join " + v + ", 0", x.join(v, 0), BAD);
            due.is("join 9, " + v, x.join(9, v), BAD);
            due.is("join " + v + " twice", x.join(v, v), BAD);
            due.is("join " + v + ", -1", x.join(v, -1), BAD);
        }
        due.is("first and last are such", x.join(0, 9), 0);
        due.is("turned round", x.join(9, 0), 1);
    }

    private static void joinVertexOfAGreaterGraph() {
        due.sentence("Promise 3", "BAD: no such vertices [0 .. n - 1]");
        for (int n = 1; n <= 9; n++) {
            ForestPacker x = Graphs.graph(10, 89);
            due.is("fewer vertices", x.begin(n), 1);
            due.is("join 0, n of " + n, x.join(0, n), BAD);
            due.is("join n, 0 of " + n, x.join(n, 0), BAD);
            due.is("join 9, 0 of " + n, x.join(9, 0), BAD);
            due.is("join 0, n - 1 of " + n, x.join(0, n - 1), n == 1 ? BAD : 0);
        }
    }

    private static void joinSameVertex() {
        due.sentence("Promise 3", "BAD: .. or the same one");
        ForestPacker x = Graphs.graph(10);
        for (int v = 0; v < 10; v++) {
            due.is("join " + v + " twice", x.join(v, v), BAD);
        }
        due.is("in a new object", new ForestPacker().join(0, 0), BAD);
        due.is("no edge", x.told(0, 2), 0);
    }

    private static void joinFull() {
        due.sentence("Promise 3", "FULL: there are 24.");
        ForestPacker x = Graphs.parallels(23);
        due.is("the 24th", x.join(0, 1), 23);
        due.is("the 25th", x.join(0, 1), FULL);
        due.is("the 25th again", x.join(1, 0), FULL);
        due.is("edges", x.told(0, 2), 24);
        due.is("where it would fit", Graphs.wide().join(0, 9), FULL);
    }

    private static void joinBadBeforeFull() {
        due.sentence("Promise 3", "The first of: BAD ..; FULL ..");
        ForestPacker x = Graphs.parallels(24);
        for (int v : new int[] {-1, 2, 9, 10, 32, MAX, MIN}) {
            due.is("join " + v + ", 0", x.join(v, 0), BAD);
            due.is("join 0, " + v, x.join(0, v), BAD);
        }
        due.is("the same one", x.join(1, 1), BAD);
    }

    private static void joinRefusedChangesNothing() {
        due.sentence("Promise 3", "BAD .. FULL .. (a refused call changes nothing)");
        ForestPacker x = Graphs.k4();
        due.is("the same one", x.join(2, 2), BAD);
        due.is("none such", x.join(0, 4), BAD);
        due.is("none such", x.join(-1, 0), BAD);
        due.is("all is as before", Graphs.all(x).equals(Graphs.all(Graphs.k4())) ? 1 : 0, 1);
        due.is("the next number", x.join(0, 1), 6);
        ForestPacker y = Graphs.wide();
        due.is("full", y.join(4, 9), FULL);
        due.is("all is as before", Graphs.all(y).equals(Graphs.all(Graphs.wide())) ? 1 : 0, 1);
    }

    private static void joinAfterFull() {
        due.sentence("Promise 3", "FULL: there are 24. (and no longer when one goes)");
        ForestPacker x = Graphs.parallels(24);
        due.is("full", x.join(0, 1), FULL);
        due.is("one goes", x.cut(11), 1);
        due.is("its number", x.join(0, 1), 11);
        due.is("full again", x.join(0, 1), FULL);
        due.is("all go", x.begin(2), 24);
        due.is("number 0", x.join(0, 1), 0);
    }

    private static void cutAnswer() {
        due.sentence("Promise 4", "the lesser one of its vertices times 10, and the other one");
        for (int a = 0; a < 10; a++) {
            for (int b = 0; b < 10; b++) {
                if (a != b) {
                    ForestPacker x = Graphs.graph(10);
                    due.is("join", x.join(a, b), 0);
                    due.is("cut " + a + " " + b, x.cut(0), Math.min(a, b) * 10 + Math.max(a, b));
                }
            }
        }
    }

    private static void cutNone() {
        due.sentence("Promise 4", "NONE: there is none such.");
        ForestPacker x = Graphs.parallels(24);
        for (int e : NO_EDGE) {
            due.is("cut " + e + " of 24", x.cut(e), NONE);
        }
        due.is("all stay", x.told(0, 2), 24);
        ForestPacker y = Graphs.parallels(23);
        due.is("cut 23 of 23", y.cut(23), NONE);
        due.is("cut 22 of 23", y.cut(22), 1);
    }

    private static void cutTwice() {
        due.sentence("Promise 4", "An EDGE goes .. NONE: there is none such.");
        ForestPacker x = Graphs.parallels(24);
        for (int e : new int[] {0, 23, 11}) {
            due.is("cut " + e, x.cut(e), 1);
            due.is("cut " + e + " again", x.cut(e), NONE);
        }
        due.is("edges", x.told(0, 2), 21);
        due.is("join", x.join(1, 0), 0);
        due.is("cut it", x.cut(0), 1);
    }

    private static void cutEmpty() {
        due.sentence("Promise 4", "NONE: there is none such. (without edges)");
        ForestPacker x = Graphs.graph(10);
        for (int e = -1; e <= 24; e++) {
            due.is("cut " + e, x.cut(e), NONE);
        }
        due.is("edges", x.told(0, 2), 0);
    }

    private static void cutRefusedChangesNothing() {
        due.sentence("Promise 4", "NONE: there is none such. (a refused call changes nothing)");
        ForestPacker x = Graphs.k4();
        due.is("cut 6", x.cut(6), NONE);
        due.is("cut 32", x.cut(32), NONE);
        due.is("cut -1", x.cut(-1), NONE);
        due.is("all is as before", Graphs.all(x).equals(Graphs.all(Graphs.k4())) ? 1 : 0, 1);
        due.is("the next number", x.join(0, 1), 6);
    }

    private static void cutOthersStay() {
        due.sentence("Promise 4", "An EDGE goes (the others keep their numbers)");
        ForestPacker x = Graphs.graph(10, 1, 23, 45, 67, 89);
        due.is("cut the first", x.cut(0), 1);
        due.is("cut the last", x.cut(4), 89);
        due.is("edge 1", x.told(1, 0) * 10 + x.told(1, 1), 23);
        due.is("edge 2", x.told(2, 0) * 10 + x.told(2, 1), 45);
        due.is("edge 3", x.told(3, 0) * 10 + x.told(3, 1), 67);
        due.is("most", x.most(1), 3);
        due.is("edges", x.told(0, 2), 3);
    }

    private static void toldEnds() {
        due.sentence("Promise 15", "what = 0 the lesser one of its vertices, 1 the greater one");
        ForestPacker x = Graphs.graph(10, 90, 9, 98, 1);
        int[] lesser = {0, 0, 8, 0};
        int[] greater = {9, 9, 9, 1};
        for (int e = 0; e < 4; e++) {
            due.is("lesser of " + e, x.told(e, 0), lesser[e]);
            due.is("greater of " + e, x.told(e, 1), greater[e]);
        }
        ForestPacker y = Graphs.parallels(24);
        due.is("lesser of 23", y.told(23, 0), 0);
        due.is("greater of 23", y.told(23, 1), 1);
    }

    private static void toldNone() {
        due.sentence("Promise 15", "NONE: there is none such");
        ForestPacker x = Graphs.parallels(24);
        for (int e : NO_EDGE) {
            due.is("lesser of " + e, x.told(e, 0), NONE);
            due.is("greater of " + e, x.told(e, 1), NONE);
        }
        due.is("cut", x.cut(23), 1);
        due.is("lesser of 23", x.told(23, 0), NONE);
        due.is("greater of 23", x.told(23, 1), NONE);
        due.is("without edges", Graphs.graph(10).told(0, 0), NONE);
    }

    private static void toldForAnyE() {
        due.sentence("Promise 15", "2 how many edges there are, 3 vertices, .. (these three for any e)");
        ForestPacker none = new ForestPacker();
        ForestPacker full = Graphs.wide();
        for (int e : NO_EDGE) {
            due.is("edges, e " + e, none.told(e, 2), 0);
            due.is("vertices, e " + e, none.told(e, 3), 1);
            due.is("among, e " + e, none.told(e, 4), 0);
            due.is("edges of 24, e " + e, full.told(e, 2), 24);
            due.is("vertices of 10, e " + e, full.told(e, 3), 10);
        }
    }

    private static void toldAmong() {
        due.sentence("Promise 15", "how many EDGES have both vertices among those that the bits e tell");
        ForestPacker x = Graphs.graph(10, 9, 90, 98, 1);
        due.is("none", x.told(0, 4), 0);
        due.is("vertex 0", x.told(1, 4), 0);
        due.is("vertex 9", x.told(512, 4), 0);
        due.is("0 and 9", x.told(513, 4), 2);
        due.is("8 and 9", x.told(768, 4), 1);
        due.is("0, 1 and 9", x.told(515, 4), 3);
        due.is("all but 9", x.told(511, 4), 1);
        due.is("all but 0", x.told(1022, 4), 1);
        due.is("all", x.told(1023, 4), 4);
        due.is("cut", x.cut(0), 9);
        due.is("0 and 9 then", x.told(513, 4), 1);
        due.is("24", Graphs.parallels(24).told(3, 4), 24);
    }

    private static void toldAmongAnyBits() {
        due.sentence("Promise 15", "4 .. that the bits e tell (.. for any e)");
        ForestPacker x = Graphs.graph(10, 9, 98, 1);
        due.is("all bits", x.told(-1, 4), 3);
        due.is("all but the sign", x.told(MAX, 4), 3);
        due.is("the sign alone", x.told(MIN, 4), 0);
        due.is("bits of no vertex", x.told(~1023, 4), 0);
        due.is("0 and 9, and bits of no vertex", x.told(~1023 | 513, 4), 1);
        due.is("0, and bit 10", x.told(1 | 1024, 4), 0);
        ForestPacker y = Graphs.graph(2, 1);
        due.is("more bits than vertices", y.told(-1, 4), 1);
        due.is("bit 1 lacks", y.told(-3, 4), 0);
        due.is("bit 0 lacks", y.told(-2, 4), 0);
    }

    private static void toldBad() {
        due.sentence("Promise 15", "BAD: another what");
        ForestPacker x = Graphs.parallels(24);
        for (int what : new int[] {-1, -2, 5, 6, 8, 32, 33, 256, MAX, MIN, MIN + 1}) {
            due.is("what " + what, x.told(0, what), BAD);
        }
    }

    private static void toldBadBeforeNone() {
        due.sentence("Promise 15", "BAD, before that: another what");
        for (int e : NO_EDGE) {
            due.is("what 5 of " + e, Graphs.parallels(24).told(e, 5), BAD);
            due.is("what -1 of " + e, Graphs.graph(2).told(e, -1), BAD);
        }
        due.is("without edges", new ForestPacker().told(0, 5), BAD);
    }
}
