/** Promises 22 to 26: one test for each sentence that tells of a border, in the order of the document. */
public final class GraphBordersTest {
    private static final Check CHECK = new Check("GraphBordersTest");
    private static final Class<IndexOutOfBoundsException> NO_SUCH = IndexOutOfBoundsException.class;
    private static final Class<IllegalArgumentException> WRONG = IllegalArgumentException.class;
    private static final int GREATEST = Integer.MAX_VALUE;
    private static final int LEAST = Integer.MIN_VALUE;
    private static final int[] NO_DOTS = {-1, 6, 7, 63, LEAST, GREATEST};

    private GraphBordersTest() {
    }

    public static void main(String[] args) {
        CHECK.sentence("22: dot and other, 0 to 5", GraphBordersTest::anEdgeIsDrawn);
        CHECK.sentence("22: or takes it away, if it is there", GraphBordersTest::anEdgeThatIsThereIsTakenAway);
        CHECK.sentence("22: Returns how many EDGES there are then", GraphBordersTest::howManyEdgesThereAreThen);
        CHECK.sentence("22: Throws IndexOutOfBoundsException if there is no such DOT, of either",
                GraphBordersTest::noSuchDotOfEither);
        CHECK.sentence("22: Throws IllegalArgumentException if both are one", GraphBordersTest::bothAreOne);
        CHECK.sentence("22: of edge's exceptions the one named first", GraphBordersTest::noSuchDotIsNamedFirst);
        CHECK.sentence("23: colours, 0 to 6", GraphBordersTest::coloursFromTheLeastToTheGreatest);
        CHECK.sentence("23: gives each DOT, also one without EDGES, one of them",
                GraphBordersTest::eachDotAlsoWithoutEdges);
        CHECK.sentence("23: so that the two DOTS of each EDGE have unlike ones",
                GraphBordersTest::theDotsOfEachEdgeHaveUnlikeOnes);
        CHECK.sentence("23: Throws IllegalArgumentException if colours is out of range",
                GraphBordersTest::coloursOutOfRange);
        CHECK.sentence("24: colours, 0 to 6", GraphBordersTest::coloursAnewFromTheLeastToTheGreatest);
        CHECK.sentence("24: each DOT, also one without EDGES", GraphBordersTest::eachDotAnewAlsoWithoutEdges);
        CHECK.sentence("24: Throws IllegalArgumentException if colours is out of range",
                GraphBordersTest::coloursAnewOutOfRange);
        CHECK.sentence("25: 1 without EDGES", GraphBordersTest::oneDirectionWithoutEdges);
        CHECK.sentence("25: without rings, if one never comes from a DOT to itself",
                GraphBordersTest::directionsWithoutRings);
        CHECK.sentence("26: 1 without EDGES", GraphBordersTest::oneDirectionAnewWithoutEdges);
        CHECK.sentence("26: the same, found with a number of colours of -1",
                GraphBordersTest::directionsAnewWithoutRings);
        CHECK.endsWell();
    }

    private static Chamberwright graph(int... dots) {
        Chamberwright x = new Chamberwright();
        House.turn(x, dots);
        return x;
    }

    // ---- promise 22

    private static void anEdgeIsDrawn() {
        for (int dot = 0; dot < 6; dot++) {
            for (int other = 0; other < 6; other++) {
                if (dot != other) {
                    Chamberwright x = new Chamberwright();
                    CHECK.same("edge(" + dot + ", " + other + ")", x.edge(dot, other), 1);
                    CHECK.same("colourings(2) behind edge(" + dot + ", " + other + ")", x.colourings(2), 32);
                }
            }
        }
    }

    private static void anEdgeThatIsThereIsTakenAway() {
        for (int dot = 0; dot < 6; dot++) {
            for (int other = 0; other < 6; other++) {
                if (dot != other) {
                    String what = "edge(" + dot + ", " + other + ") ";
                    CHECK.same(what + "twice", graph(dot, other).edge(dot, other), 0);
                    CHECK.same(what + "and back", graph(dot, other).edge(other, dot), 0);
                    CHECK.same(what + "three times", graph(dot, other, other, dot).edge(dot, other), 1);
                    CHECK.same(what + "of all", House.FULL.anew().edge(dot, other), 14);
                    CHECK.same(what + "away: none is left", graph(dot, other, other, dot).colourings(1), 1);
                }
            }
        }
    }

    private static void howManyEdgesThereAreThen() {
        Chamberwright x = new Chamberwright();
        int[] dots = House.allDots();
        for (int at = 0; at < dots.length; at += 2) {
            CHECK.same("drawn", x.edge(dots[at + 1], dots[at]), at / 2 + 1);
        }
        for (int at = 0; at < dots.length; at += 2) {
            CHECK.same("taken away", x.edge(dots[at], dots[at + 1]), 14 - at / 2);
        }
        for (House house : House.values()) {
            CHECK.same("one more or one less of " + house, house.anew().edge(0, 1),
                    house == House.TRIANGLE || house == House.FULL ? house.edges() - 1 : house.edges() + 1);
        }
    }

    private static void noSuchDotOfEither() {
        for (House house : House.values()) {
            for (int none : NO_DOTS) {
                CHECK.refused(house, "edge(" + none + ", 0) of " + house, NO_SUCH, x -> x.edge(none, 0));
                CHECK.refused(house, "edge(5, " + none + ") of " + house, NO_SUCH, x -> x.edge(5, none));
            }
            CHECK.refused(house, "edge(-1, 6) of " + house, NO_SUCH, x -> x.edge(-1, 6));
        }
    }

    private static void bothAreOne() {
        for (House house : House.values()) {
            for (int dot = 0; dot < 6; dot++) {
                int one = dot;
                CHECK.refused(house, "edge(" + dot + ", " + dot + ") of " + house, WRONG, x -> x.edge(one, one));
            }
        }
    }

    private static void noSuchDotIsNamedFirst() {
        for (House house : House.values()) {
            for (int none : NO_DOTS) {
                CHECK.refused(house, "edge(" + none + ", " + none + ") of " + house, NO_SUCH, x -> x.edge(none, none));
            }
        }
    }

    // ---- promises 23 and 24

    /** What the graphs of a few kinds are due, with 0 to 6 colours. */
    private static final int[][] GRAPHS = {
        {},
        {0, 5},
        {0, 1, 1, 2, 2, 3, 3, 4, 4, 5},
        {0, 1, 1, 2, 2, 3, 3, 4, 4, 5, 5, 0},
        {1, 2, 2, 3, 3, 1},
    };
    private static final String[] COLOURINGS = {
        "0 1 64 729 4096 15625 46656",
        "0 0 32 486 3072 12500 38880",
        "0 0 2 96 972 5120 18750",
        "0 0 2 66 732 4100 15630",
        "0 0 0 162 1536 7500 25920",
    };
    private static final int[] DIRECTIONS = {1, 2, 32, 62, 6};

    private static String colourings(Chamberwright x) {
        int[] found = new int[7];
        for (int colours = 0; colours < 7; colours++) {
            found[colours] = x.colourings(colours);
        }
        return Check.row(found);
    }

    private static String colouringsAnew(Chamberwright x) {
        int[] found = new int[7];
        for (int colours = 0; colours < 7; colours++) {
            found[colours] = x.colouringsAnew(colours);
        }
        return Check.row(found);
    }

    private static void coloursFromTheLeastToTheGreatest() {
        for (int kind = 0; kind < GRAPHS.length; kind++) {
            CHECK.same("graph " + kind, colourings(graph(GRAPHS[kind])), COLOURINGS[kind]);
        }
        CHECK.same("all EDGES", colourings(House.FULL.anew()), "0 0 0 0 0 0 720");
    }

    private static void eachDotAlsoWithoutEdges() {
        CHECK.same("with 0 colours", new Chamberwright().colourings(0), 0);
        CHECK.same("with 1", new Chamberwright().colourings(1), 1);
        CHECK.same("with 6", new Chamberwright().colourings(6), 46656);
        CHECK.same("with 6, emptied", House.EMPTIED.anew().colourings(6), 46656);
        CHECK.same("two DOTS without EDGES, 6 colours", graph(0, 1, 2, 3).colourings(6), 36 * 900);
        CHECK.same("one DOT without EDGES, 0 colours", graph(0, 1, 1, 2, 2, 3, 3, 4).colourings(0), 0);
    }

    private static void theDotsOfEachEdgeHaveUnlikeOnes() {
        int[] dots = House.allDots();
        for (int at = 0; at < dots.length; at += 2) {
            CHECK.same("one EDGE, 1 colour", graph(dots[at], dots[at + 1]).colourings(1), 0);
            CHECK.same("one EDGE, 6 colours", graph(dots[at], dots[at + 1]).colourings(6), 38880);
            Chamberwright x = House.FULL.anew();
            x.edge(dots[at], dots[at + 1]);
            CHECK.same("all but one, 5 colours", x.colourings(5), 120);
        }
    }

    private static void coloursOutOfRange() {
        for (House house : House.values()) {
            for (int colours : new int[] {-1, -6, 7, 8, LEAST, GREATEST}) {
                CHECK.refused(house, "colourings(" + colours + ") of " + house, WRONG, x -> x.colourings(colours));
            }
        }
    }

    private static void coloursAnewFromTheLeastToTheGreatest() {
        for (int kind = 0; kind < GRAPHS.length; kind++) {
            CHECK.same("graph " + kind, colouringsAnew(graph(GRAPHS[kind])), COLOURINGS[kind]);
        }
        CHECK.same("all EDGES", colouringsAnew(House.FULL.anew()), "0 0 0 0 0 0 720");
        int[] dots = House.allDots();
        for (int at = 0; at < dots.length; at += 2) {
            CHECK.same("one EDGE, 6 colours", graph(dots[at], dots[at + 1]).colouringsAnew(6), 38880);
        }
    }

    private static void eachDotAnewAlsoWithoutEdges() {
        CHECK.same("with 0 colours", new Chamberwright().colouringsAnew(0), 0);
        CHECK.same("with 1", new Chamberwright().colouringsAnew(1), 1);
        CHECK.same("with 6", new Chamberwright().colouringsAnew(6), 46656);
        CHECK.same("with 6, emptied", House.EMPTIED.anew().colouringsAnew(6), 46656);
        CHECK.same("two DOTS without EDGES, 6 colours", graph(0, 1, 2, 3).colouringsAnew(6), 36 * 900);
        CHECK.same("one DOT without EDGES, 0 colours", graph(0, 1, 1, 2, 2, 3, 3, 4).colouringsAnew(0), 0);
    }

    private static void coloursAnewOutOfRange() {
        for (House house : House.values()) {
            for (int colours : new int[] {-1, -6, 7, 8, LEAST, GREATEST}) {
                CHECK.refused(house, "colouringsAnew(" + colours + ") of " + house, WRONG,
                        x -> x.colouringsAnew(colours));
            }
        }
    }

    // ---- promises 25 and 26

    private static void oneDirectionWithoutEdges() {
        CHECK.same("of a new object", new Chamberwright().directions(), 1);
        CHECK.same("with LINES alone", House.PENCIL.anew().directions(), 1);
        CHECK.same("emptied", House.EMPTIED.anew().directions(), 1);
        CHECK.same("one drawn and taken away", graph(4, 2, 2, 4).directions(), 1);
    }

    private static void directionsWithoutRings() {
        for (int kind = 0; kind < GRAPHS.length; kind++) {
            CHECK.same("graph " + kind, graph(GRAPHS[kind]).directions(), DIRECTIONS[kind]);
        }
        CHECK.same("all EDGES", House.FULL.anew().directions(), 720);
        int[] dots = House.allDots();
        for (int at = 0; at < dots.length; at += 2) {
            CHECK.same("one EDGE", graph(dots[at], dots[at + 1]).directions(), 2);
            Chamberwright x = House.FULL.anew();
            x.edge(dots[at], dots[at + 1]);
            CHECK.same("all but one", x.directions(), 600);
        }
    }

    private static void oneDirectionAnewWithoutEdges() {
        CHECK.same("of a new object", new Chamberwright().directionsAnew(), 1);
        CHECK.same("with LINES alone", House.PENCIL.anew().directionsAnew(), 1);
        CHECK.same("emptied", House.EMPTIED.anew().directionsAnew(), 1);
        CHECK.same("one drawn and taken away", graph(4, 2, 2, 4).directionsAnew(), 1);
    }

    private static void directionsAnewWithoutRings() {
        for (int kind = 0; kind < GRAPHS.length; kind++) {
            CHECK.same("graph " + kind, graph(GRAPHS[kind]).directionsAnew(), DIRECTIONS[kind]);
        }
        CHECK.same("all EDGES", House.FULL.anew().directionsAnew(), 720);
        int[] dots = House.allDots();
        for (int at = 0; at < dots.length; at += 2) {
            CHECK.same("one EDGE", graph(dots[at], dots[at + 1]).directionsAnew(), 2);
            Chamberwright x = House.FULL.anew();
            x.edge(dots[at], dots[at + 1]);
            CHECK.same("all but one", x.directionsAnew(), 600);
        }
    }
}
