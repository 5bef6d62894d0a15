/** Each promise of the document in turn: ordinary calls, the edges it names, wrong inputs. */
public final class PromiseTest {

    private static final int NONE = -1;
    private static final int BAD = -2;
    private static final int FULL = -3;
    private static final int[] NO_VERTEX_COUNT = {0, -1, 11, Integer.MAX_VALUE, Integer.MIN_VALUE};
    private static final int[] NO_FOREST_COUNT = {-1, -2, 7, 8, Integer.MAX_VALUE, Integer.MIN_VALUE};
    private static final int[] NO_EDGE = {-2, -3, 24, 25, 32, 33, Integer.MAX_VALUE, Integer.MIN_VALUE};

    private static final Due due = new Due();

    public static void main(String[] args) {
        promise1();
        promise2();
        promise3();
        promise4();
        promise5();
        promise6();
        promise7();
        promise8();
        promise8WrongInputs();
        promise9();
        promise10And11();
        promise12();
        promise13();
        promise14();
        promise15();
        objectsStandApart();
        due.end();
    }

    private static void promise1() {
        ForestPacker x = new ForestPacker();
        due.is("1: vertices", x.told(0, 3), 1);
        due.is("1: edges", x.told(0, 2), 0);
        due.is("1: no second vertex", x.join(0, 1), BAD);
        due.is("1: tight", x.tight(6, 0, 0), 1);
        due.is("1: classes", x.classes(6), 1);
        due.is("1: spanning", x.spanning(), 6);
        due.is("1: NONE", ForestPacker.NONE, NONE);
        due.is("1: BAD", ForestPacker.BAD, BAD);
        due.is("1: FULL", ForestPacker.FULL, FULL);
    }

    private static void promise2() {
        ForestPacker x = Graphs.graph(3, 1, 12, 2);
        due.is("2: held before", x.most(2), 3);
        for (int n : NO_VERTEX_COUNT) {
            due.is("2: begin wrong", x.begin(n), BAD);
        }
        due.is("2: edges stay", x.told(0, 2), 3);
        due.is("2: vertices stay", x.told(0, 3), 3);
        due.is("2: begin ten", x.begin(10), 3);
        due.is("2: ten vertices", x.told(0, 3), 10);
        due.is("2: no edges", x.told(0, 2), 0);
        due.is("2: none held", x.most(2), 0);
        due.is("2: the edge went", x.cut(0), NONE);
        due.is("2: numbers from 0", x.join(8, 9), 0);
        due.is("2: begin one", x.begin(1), 1);
        due.is("2: one vertex", x.join(0, 1), BAD);
        due.is("2: begin again", x.begin(1), 0);
    }

    private static void promise3() {
        ForestPacker x = Graphs.graph(10, 1, 10, 98, 89);
        due.is("3: same vertex", x.join(3, 3), BAD);
        due.is("3: below", x.join(-1, 3), BAD);
        due.is("3: below, second", x.join(3, -1), BAD);
        due.is("3: above", x.join(10, 3), BAD);
        due.is("3: above, second", x.join(3, 10), BAD);
        due.is("3: far", x.join(Integer.MIN_VALUE, Integer.MAX_VALUE), BAD);
        due.is("3: edges stay", x.told(0, 2), 4);
        due.is("3: held before", x.most(2), 4);
        due.is("3: join", x.join(4, 5), 4);
        due.is("3: held with it", x.most(2), 5);
        due.is("3: cut 4", x.cut(4), 45);
        due.is("3: cut 2", x.cut(2), 89);
        due.is("3: cut 1", x.cut(1), 1);
        due.is("3: least free", x.join(4, 5), 1);
        due.is("3: next free", x.join(5, 4), 2);
        for (int e = 4; e < 24; e++) {
            due.is("3: fill", x.join(0, 9), e);
        }
        due.is("3: full", x.join(0, 1), FULL);
        due.is("3: full, second time", x.join(9, 8), FULL);
        due.is("3: BAD before FULL", x.join(0, 0), BAD);
        due.is("3: BAD before FULL, vertex", x.join(0, 10), BAD);
        due.is("3: edges", x.told(0, 2), 24);
        due.is("3: the last goes", x.cut(23), 9);
        due.is("3: the last again", x.join(2, 1), 23);
        due.is("3: its ends", x.told(23, 0) * 10 + x.told(23, 1), 12);
    }

    private static void promise4() {
        ForestPacker x = Graphs.graph(10, 73, 2, 98);
        due.is("4: turned round", x.cut(0), 37);
        due.is("4: gone", x.cut(0), NONE);
        due.is("4: with 0", x.cut(1), 2);
        due.is("4: never was", x.cut(3), NONE);
        due.is("4: NONE", x.cut(NONE), NONE);
        for (int e : NO_EDGE) {
            due.is("4: no edge", x.cut(e), NONE);
        }
        due.is("4: one left", x.told(0, 2), 1);
        due.is("4: held now", x.most(1), 1);
        due.is("4: last", x.cut(2), 89);
        due.is("4: none held", x.most(1), 0);
    }

    private static void promise5() {
        ForestPacker x = Graphs.k4();
        int[] want = {0, 3, 6, 6, 6, 6, 6};
        for (int k = 0; k <= 6; k++) {
            due.is("5: K4", x.most(k), want[k]);
        }
        for (int k : NO_FOREST_COUNT) {
            due.is("5: wrong k", x.most(k), BAD);
        }
        ForestPacker y = Graphs.parallels(24);
        for (int k = 0; k <= 6; k++) {
            due.is("5: parallels", y.most(k), k);
        }
        due.is("5: two parts", Graphs.graph(6, 1, 12, 2, 34, 45, 35).most(1), 4);
    }

    private static void promise6() {
        ForestPacker x = Graphs.parallels(3);
        due.is("6: first", x.held(2, 0), 1);
        due.is("6: second", x.held(2, 1), 1);
        due.is("6: third", x.held(2, 2), 0);
        due.is("6: none by 0", x.held(0, 0), 0);
        due.is("6: all by 3", x.held(3, 2), 1);
        due.is("6: cut", x.cut(0), 1);
        due.is("6: moves up", x.held(2, 2), 1);
        due.is("6: join", x.join(0, 1), 0);
        due.is("6: by number, not by age", x.held(1, 0), 1);
        due.is("6: by number, not by age", x.held(1, 1), 0);
        due.is("6: no edge", x.held(6, 3), NONE);
        due.is("6: NONE", x.held(6, NONE), NONE);
        for (int e : NO_EDGE) {
            due.is("6: no edge", x.held(0, e), NONE);
        }
        for (int k : NO_FOREST_COUNT) {
            due.is("6: wrong k", x.held(k, 0), BAD);
            due.is("6: BAD before NONE", x.held(k, 3), BAD);
        }
        ForestPacker y = Graphs.graph(4, 1, 12, 2, 23);
        due.is("6: ring", y.held(1, 2), 0);
        due.is("6: behind the ring", y.held(1, 3), 1);
    }

    private static void promise7() {
        ForestPacker x = Graphs.k4();
        // edge 2 would leave the triangle 12, 13, 23 to forest 1; edge 3 closes 01, 02, 12
        int[] want = {0, 0, 1, 1, 0, 1};
        for (int e = 0; e < 6; e++) {
            due.is("7: K4 " + e, x.forest(2, e), want[e]);
        }
        for (int e = 0; e < 6; e++) {
            due.is("7: K4, one forest " + e, x.forest(1, e), e < 3 ? 0 : NONE);
            due.is("7: K4, no forest " + e, x.forest(0, e), NONE);
        }
        due.is("7: no edge", x.forest(2, 6), NONE);
        due.is("7: NONE", x.forest(2, NONE), NONE);
        for (int e : NO_EDGE) {
            due.is("7: no edge", x.forest(2, e), NONE);
        }
        for (int k : NO_FOREST_COUNT) {
            due.is("7: wrong k", x.forest(k, 0), BAD);
            due.is("7: BAD before NONE", x.forest(k, 6), BAD);
        }
        due.is("7: all still held", x.most(2), 6);
        due.is("7: cut", x.cut(5), 23);
        due.is("7: room for 2 now", x.forest(2, 2), 0);
        ForestPacker y = Graphs.parallels(7);
        for (int e = 0; e < 7; e++) {
            due.is("7: parallel " + e, y.forest(6, e), e < 6 ? e : NONE);
        }
        due.is("7: least forest though six are free", Graphs.graph(3, 1, 12).forest(6, 1), 0);
    }

    private static void promise8() {
        ForestPacker x = Graphs.graph(4, 1, 12, 23, 2);
        due.is("8: count", x.why(1, 3, NONE), 3);
        due.is("8: of the ring", x.why(1, 3, 0), 1);
        due.is("8: of the ring", x.why(1, 3, 1), 1);
        due.is("8: beside it", x.why(1, 3, 2), 0);
        due.is("8: itself", x.why(1, 3, 3), 1);
        due.is("8: no forest, count", x.why(0, 2, NONE), 1);
        due.is("8: no forest, itself", x.why(0, 2, 2), 1);
        due.is("8: no forest, another", x.why(0, 2, 0), 0);
        ForestPacker y = Graphs.parallels(4);
        due.is("8: parallels", y.why(2, 3, NONE), 3);
        due.is("8: another that is not held", y.why(2, 3, 2), 0);
        // 01 thrice fills two forests between 0 and 1 alone, whatever else hangs on them
        ForestPacker z = Graphs.graph(4, 12, 1, 13, 1, 1);
        due.is("8: through both forests", z.why(2, 4, NONE), 3);
        due.is("8: not the pendant", z.why(2, 4, 0), 0);
        ForestPacker k4 = Graphs.k4();
        due.is("8: join", k4.join(0, 3), 6);
        due.is("8: after forest", k4.forest(2, 6), NONE);
        due.is("8: all of K4", k4.why(2, 6, NONE), 7);
    }

    private static void promise8WrongInputs() {
        ForestPacker x = Graphs.graph(4, 1, 12, 23, 2);
        due.is("8: held", x.why(1, 0, NONE), NONE);
        due.is("8: held, itself", x.why(1, 0, 0), NONE);
        due.is("8: no such f", x.why(1, 3, 4), NONE);
        due.is("8: no such e", x.why(1, 4, NONE), NONE);
        due.is("8: no such e, f", x.why(1, 4, 3), NONE);
        due.is("8: e is NONE", x.why(1, NONE, NONE), NONE);
        for (int e : NO_EDGE) {
            due.is("8: no such e", x.why(1, e, NONE), NONE);
            due.is("8: no such f", x.why(1, 3, e), NONE);
        }
        for (int k : NO_FOREST_COUNT) {
            due.is("8: wrong k", x.why(k, 3, NONE), BAD);
            due.is("8: BAD before NONE", x.why(k, 4, 4), BAD);
        }
    }

    private static void promise9() {
        ForestPacker x = Graphs.graph(3, 1);
        due.is("9: joined", x.tight(1, 0, 1), 1);
        due.is("9: turned round", x.tight(1, 1, 0), 1);
        due.is("9: apart", x.tight(1, 0, 2), 0);
        due.is("9: itself", x.tight(1, 2, 2), 1);
        due.is("9: room for one more", x.tight(2, 0, 1), 0);
        due.is("9: itself in 6", x.tight(6, 0, 0), 1);
        due.is("9: no forest", x.tight(0, 0, 2), 1);
        due.is("9: nothing was added", x.told(0, 2), 1);
        for (int k : NO_FOREST_COUNT) {
            due.is("9: wrong k", x.tight(k, 0, 1), BAD);
        }
        for (int v : new int[] {-1, 3, 10, 32, Integer.MAX_VALUE, Integer.MIN_VALUE}) {
            due.is("9: no vertex", x.tight(1, v, 0), BAD);
            due.is("9: no vertex", x.tight(1, 0, v), BAD);
            due.is("9: no vertex twice", x.tight(1, v, v), BAD);
        }
        ForestPacker y = Graphs.parallels(24);
        due.is("9: 24 edges", y.tight(6, 0, 1), 1);
        due.is("9: through others", Graphs.graph(3, 1, 12).tight(1, 0, 2), 1);
        due.is("9: K4 is full in 2", Graphs.k4().tight(2, 0, 3), 1);
        due.is("9: K4 is not in 3", Graphs.k4().tight(3, 0, 3), 0);
    }

    private static void promise10And11() {
        ForestPacker x = Graphs.graph(5, 1, 1, 23, 1);
        int[] classes = {1, 3, 4, 4, 5};
        int[] crossing = {0, 0, 1, 1, 4};
        for (int k = 0; k <= 4; k++) {
            due.is("10: classes of " + k, x.classes(k), classes[k]);
            due.is("11: crossing of " + k, x.crossing(k), crossing[k]);
        }
        for (int k : NO_FOREST_COUNT) {
            due.is("10: wrong k", x.classes(k), BAD);
            due.is("11: wrong k", x.crossing(k), BAD);
        }
        due.is("10: K4 in 2", Graphs.k4().classes(2), 1);
        due.is("11: K4 in 2", Graphs.k4().crossing(2), 0);
        due.is("10: without edges", Graphs.graph(10).classes(1), 10);
        due.is("10: without edges, no forest", Graphs.graph(10).classes(0), 1);
        due.is("11: without edges", Graphs.graph(10).crossing(6), 0);
        // two pairs, each full in 2, and one edge between them
        ForestPacker y = Graphs.graph(4, 1, 1, 23, 23, 12);
        due.is("10: two pairs", y.classes(2), 2);
        due.is("11: between the pairs", y.crossing(2), 1);
    }

    private static void promise12() {
        due.is("12: without edges", Graphs.graph(10).arboricity(), 0);
        due.is("12: tree", Graphs.graph(4, 1, 2, 3).arboricity(), 1);
        due.is("12: triangle", Graphs.graph(3, 1, 12, 2).arboricity(), 2);
        due.is("12: K4", Graphs.k4().arboricity(), 2);
        due.is("12: K5", Graphs.graph(5, 1, 2, 3, 4, 12, 13, 14, 23, 24, 34).arboricity(), 3);
        for (int count = 1; count <= 6; count++) {
            due.is("12: parallels", Graphs.parallels(count).arboricity(), count);
        }
        ForestPacker x = Graphs.parallels(7);
        due.is("12: above 6", x.arboricity(), NONE);
        due.is("12: cut", x.cut(3), 1);
        due.is("12: 6 again", x.arboricity(), 6);
        due.is("12: 24", Graphs.parallels(24).arboricity(), NONE);
    }

    private static void promise13() {
        due.is("13: without edges", Graphs.graph(10).dense(), 0);
        due.is("13: above 6", Graphs.parallels(7).dense(), NONE);
        due.is("13: six", Graphs.parallels(6).dense(), 3);
        due.is("13: one edge", Graphs.graph(10, 74).dense(), 1 << 7 | 1 << 4);
        ForestPacker x = Graphs.graph(4, 1, 23);
        due.is("13: first edge", x.dense(), 3);
        due.is("13: cut", x.cut(0), 1);
        due.is("13: edge 1 is first", x.dense(), 12);
        due.is("13: join", x.join(3, 0), 0);
        due.is("13: edge 0 is first", x.dense(), 9);
        due.is("13: triangle with tails", Graphs.graph(6, 1, 12, 23, 34, 42, 45).dense(), 4 + 8 + 16);
        due.is("13: first of two rings", Graphs.graph(6, 34, 45, 35, 1, 12, 2).dense(), 8 + 16 + 32);
        due.is("13: K4", Graphs.k4().dense(), 7);
        due.is("13: K5", Graphs.graph(5, 1, 2, 3, 4, 12, 13, 14, 23, 24, 34).dense(), 31);
    }

    private static void promise14() {
        due.is("14: one vertex", Graphs.graph(1).spanning(), 6);
        due.is("14: apart", Graphs.graph(2).spanning(), 0);
        for (int count = 1; count <= 6; count++) {
            due.is("14: parallels", Graphs.parallels(count).spanning(), count);
        }
        due.is("14: no more than 6", Graphs.parallels(24).spanning(), 6);
        due.is("14: triangle", Graphs.graph(3, 1, 12, 2).spanning(), 1);
        due.is("14: K4", Graphs.k4().spanning(), 2);
        due.is("14: a part left out", Graphs.graph(4, 1, 1, 12, 12, 2, 2).spanning(), 0);
        due.is("14: one edge to the fourth", Graphs.graph(4, 1, 1, 12, 12, 2, 23).spanning(), 1);
    }

    private static void promise15() {
        ForestPacker x = Graphs.graph(10, 83, 9, 38);
        due.is("15: lesser", x.told(0, 0), 3);
        due.is("15: greater", x.told(0, 1), 8);
        due.is("15: lesser 0", x.told(1, 0), 0);
        due.is("15: greater 9", x.told(1, 1), 9);
        due.is("15: no edge, lesser", x.told(3, 0), NONE);
        due.is("15: no edge, greater", x.told(3, 1), NONE);
        due.is("15: among 3 and 8", x.told(1 << 3 | 1 << 8, 4), 2);
        due.is("15: among 0, 3 and 9", x.told(1 | 1 << 3 | 1 << 9, 4), 1);
        due.is("15: one end alone", x.told(1 << 8, 4), 0);
        due.is("15: among none", x.told(0, 4), 0);
        due.is("15: among all", x.told(-1, 4), 3);
        due.is("15: bits above", x.told(~1023, 4), 0);
        for (int e : NO_EDGE) {
            due.is("15: no edge, lesser", x.told(e, 0), NONE);
            due.is("15: no edge, greater", x.told(e, 1), NONE);
            due.is("15: edges for any e", x.told(e, 2), 3);
            due.is("15: vertices for any e", x.told(e, 3), 10);
        }
        for (int what : new int[] {-1, -2, 5, 6, Integer.MAX_VALUE, Integer.MIN_VALUE}) {
            due.is("15: another what", x.told(0, what), BAD);
            due.is("15: BAD before NONE", x.told(3, what), BAD);
        }
        due.is("15: cut", x.cut(0), 38);
        due.is("15: gone", x.told(0, 0), NONE);
        due.is("15: one less among", x.told(-1, 4), 2);
    }

    private static void objectsStandApart() {
        ForestPacker x = Graphs.k4();
        ForestPacker y = Graphs.graph(3, 1, 12, 2);
        due.is("two objects: first", x.most(2), 6);
        due.is("two objects: second", y.most(2), 3);
        due.is("two objects: first again", x.told(0, 2), 6);
    }
}
