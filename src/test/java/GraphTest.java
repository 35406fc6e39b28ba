/** Promises 22 to 26: EDGES, colourings and directions, each in two ways. */
public final class GraphTest {
    private static final Check CHECK = new Check("GraphTest");

    private GraphTest() {
    }

    public static void main(String[] args) {
        edgesComeAndGo();
        edgesAreRefused();
        withoutEdges();
        aTree();
        aRing();
        allEdges();
        linesDoNotMatter();
        coloursAreRefused();
        CHECK.endsWell();
    }

    private static Chamberwright graph(int... dots) {
        Chamberwright x = new Chamberwright();
        for (int i = 0; i + 1 < dots.length; i += 2) {
            x.edge(dots[i], dots[i + 1]);
        }
        return x;
    }

    private static void edgesComeAndGo() {
        Chamberwright x = new Chamberwright();
        int count = 0;
        for (int dot = 0; dot < 6; dot++) {
            for (int other = dot + 1; other < 6; other++) {
                count++;
                CHECK.same("edge(" + dot + ", " + other + ")", x.edge(dot, other), count);
            }
        }
        CHECK.same("all EDGES", count, 15);
        for (int dot = 0; dot < 6; dot++) {
            for (int other = dot + 1; other < 6; other++) {
                count--;
                CHECK.same("edge(" + other + ", " + dot + ") taken away", x.edge(other, dot), count);
            }
        }
        CHECK.same("none is left", x.colourings(1), 1);
        CHECK.same("an EDGE told the other way round", Check.row(x.edge(5, 0), x.edge(0, 5)), "1 0");
    }

    private static void edgesAreRefused() {
        Check.Made made = () -> graph(0, 1, 4, 5);
        Class<IndexOutOfBoundsException> noSuch = IndexOutOfBoundsException.class;
        int[] outside = {-1, 6, Integer.MAX_VALUE, Integer.MIN_VALUE};
        for (int dot : outside) {
            CHECK.refused(made, "edge(" + dot + ", 0)", noSuch, y -> y.edge(dot, 0));
            CHECK.refused(made, "edge(0, " + dot + ")", noSuch, y -> y.edge(0, dot));
            CHECK.refused(made, "edge(" + dot + ", " + dot + ")", noSuch, y -> y.edge(dot, dot));
        }
        for (int dot = 0; dot < 6; dot++) {
            int one = dot;
            CHECK.refused(made, "edge(" + one + ", " + one + ")", IllegalArgumentException.class,
                    y -> y.edge(one, one));
        }
        CHECK.same("the EDGES are two", made.anew().edge(2, 3), 3);
    }

    /** The colourings with 0 to 6 colours, and the directions; each in both ways. */
    private static String told(Chamberwright x) {
        int[] way = new int[8];
        int[] otherWay = new int[8];
        for (int colours = 0; colours < 7; colours++) {
            way[colours] = x.colourings(colours);
            otherWay[colours] = x.colouringsAnew(colours);
        }
        way[7] = x.directions();
        otherWay[7] = x.directionsAnew();
        CHECK.same("the other way", Check.row(otherWay), Check.row(way));
        return Check.row(way);
    }

    private static void withoutEdges() {
        CHECK.same("no EDGES", told(graph()), "0 1 64 729 4096 15625 46656 1");
        CHECK.same("one EDGE", told(graph(2, 4)), "0 0 32 486 3072 12500 38880 2");
    }

    private static void aTree() {
        CHECK.same("a row of all DOTS", told(graph(0, 1, 1, 2, 2, 3, 3, 4, 4, 5)), "0 0 2 96 972 5120 18750 32");
        CHECK.same("a star", told(graph(5, 0, 5, 1, 5, 2, 5, 3, 5, 4)), "0 0 2 96 972 5120 18750 32");
        CHECK.same("three apart", told(graph(0, 5, 1, 4, 2, 3)), "0 0 8 216 1728 8000 27000 8");
    }

    private static void aRing() {
        CHECK.same("a ring of three", told(graph(0, 1, 1, 2, 2, 0)), "0 0 0 162 1536 7500 25920 6");
        CHECK.same("a ring of four", told(graph(1, 3, 3, 5, 5, 2, 2, 1)), "0 0 8 162 1344 6500 22680 14");
        CHECK.same("a ring of six", told(graph(0, 1, 1, 2, 2, 3, 3, 4, 4, 5, 5, 0)), "0 0 2 66 732 4100 15630 62");
        CHECK.same("two rings of three", told(graph(0, 1, 1, 2, 2, 0, 3, 4, 4, 5, 5, 3)),
                "0 0 0 36 576 3600 14400 36");
    }

    private static void allEdges() {
        Chamberwright x = new Chamberwright();
        for (int dot = 0; dot < 6; dot++) {
            for (int other = 0; other < dot; other++) {
                x.edge(dot, other);
            }
        }
        CHECK.same("all EDGES", told(x), "0 0 0 0 0 0 720 720");
        x.edge(3, 1);
        CHECK.same("all but one", told(x), "0 0 0 0 0 120 1440 600");
        x.edge(1, 3);
        CHECK.same("all again", told(x), "0 0 0 0 0 0 720 720");
        CHECK.same("three by three", told(graph(0, 3, 0, 4, 0, 5, 1, 3, 1, 4, 1, 5, 2, 3, 2, 4, 2, 5)),
                "0 0 2 42 420 2420 9750 230");
    }

    private static void linesDoNotMatter() {
        Chamberwright x = graph(0, 1, 1, 2, 2, 0);
        String before = told(x);
        x.line(1, 2, 3);
        x.line(1, 0, 0);
        CHECK.same("the graph behind two LINES", told(x), before);
        int rooms = x.rooms();
        x.edge(4, 5);
        CHECK.same("the ROOMS behind an EDGE", x.rooms(), rooms);
    }

    private static void coloursAreRefused() {
        Check.Made made = () -> graph(0, 1, 1, 2);
        int[] outside = {-1, 7, Integer.MAX_VALUE, Integer.MIN_VALUE};
        for (int colours : outside) {
            CHECK.refused(made, "colourings(" + colours + ")", IllegalArgumentException.class,
                    y -> y.colourings(colours));
            CHECK.refused(made, "colouringsAnew(" + colours + ")", IllegalArgumentException.class,
                    y -> y.colouringsAnew(colours));
        }
    }
}
