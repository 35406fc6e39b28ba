/** Promises 18 to 21: reflections, the KALEIDOSCOPE, pairs. */
public final class MirrorsTest {
    private static final Check CHECK = new Check("MirrorsTest");
    private static final Class<IndexOutOfBoundsException> NO_SUCH = IndexOutOfBoundsException.class;

    private MirrorsTest() {
    }

    public static void main(String[] args) {
        reflections();
        reflectionsAreRefused();
        kaleidoscopes();
        pairsAreNumbered();
        pairsAreRefused();
        CHECK.endsWell();
    }

    private static Chamberwright house(int[]... tellings) {
        Chamberwright x = new Chamberwright();
        for (int[] telling : tellings) {
            x.line(telling[0], telling[1], telling[2]);
        }
        return x;
    }

    private static int[] t(int a, int b, int c) {
        return new int[] {a, b, c};
    }

    private static void reflections() {
        Chamberwright x = house(t(1, 0, 0), t(0, 1, 0), t(1, 1, 0), t(-3, 3, 0), t(1, 0, 2), t(1, 0, -2), t(0, -2, 4));
        CHECK.same("in itself", Check.row(x.reflected(0, 0), x.reflected(3, 3), x.reflected(6, 6)), "0 3 6");
        CHECK.same("in one across", Check.row(x.reflected(0, 1), x.reflected(4, 1), x.reflected(2, 3)), "0 4 2");
        CHECK.same("over the half between", Check.row(x.reflected(0, 2), x.reflected(1, 3), x.reflected(2, 0)), "1 0 3");
        CHECK.same("in one beside", Check.row(x.reflected(4, 0), x.reflected(5, 0), x.reflected(0, 4)), "5 4 -1");
        CHECK.same("off the origin", Check.row(x.reflected(4, 3), x.reflected(5, 3), x.reflected(6, 3)), "-1 6 5");
        CHECK.same("4 in 2 is y = -2", x.reflected(4, 2), 6);
        Chamberwright slanted = house(t(2, 1, 5), t(1, 0, 0), t(3, -4, 5), t(4, 3, 9));
        CHECK.same("with parts of whole numbers", Check.row(slanted.reflected(1, 0), slanted.reflected(2, 1),
                slanted.reflected(3, 2), slanted.reflected(0, 0)), "-1 -1 3 0");
        Chamberwright back = house(t(1, 0, 1), t(2, 1, 2), t(3, 4, 3));
        CHECK.same("one slant halves another", Check.row(back.reflected(0, 1), back.reflected(2, 1)), "2 0");
    }

    private static void reflectionsAreRefused() {
        Check.Made made = () -> house(t(1, 0, 0), t(0, 1, 0));
        CHECK.refused(made, "reflected(2, 0)", NO_SUCH, y -> y.reflected(2, 0));
        CHECK.refused(made, "reflected(0, 2)", NO_SUCH, y -> y.reflected(0, 2));
        CHECK.refused(made, "reflected(-1, 0)", NO_SUCH, y -> y.reflected(-1, 0));
        CHECK.refused(made, "reflected(0, -1)", NO_SUCH, y -> y.reflected(0, -1));
        CHECK.refused(made, "reflected(MAX, MIN)", NO_SUCH,
                y -> y.reflected(Integer.MAX_VALUE, Integer.MIN_VALUE));
        CHECK.refused(Chamberwright::new, "reflected(0, 0) without LINES", NO_SUCH, y -> y.reflected(0, 0));
    }

    private static void kaleidoscopes() {
        CHECK.yes("no LINES", new Chamberwright().isKaleidoscope());
        CHECK.yes("one LINE", house(t(1, 2, 3)).isKaleidoscope());
        CHECK.yes("two across", house(t(1, 2, 3), t(-2, 1, 7)).isKaleidoscope());
        CHECK.no("two beside one another", house(t(1, 2, 3), t(1, 2, 5)).isKaleidoscope());
        CHECK.no("two that slant", house(t(1, 0, 0), t(1, 1, 0)).isKaleidoscope());
        CHECK.yes("four through one", house(t(1, 0, 1), t(0, 1, 1), t(1, 1, 2), t(1, -1, 0)).isKaleidoscope());
        CHECK.no("three of those", house(t(1, 0, 1), t(0, 1, 1), t(1, 1, 2)).isKaleidoscope());
        CHECK.no("four, one of them past the MEET",
                house(t(1, 0, 1), t(0, 1, 1), t(1, 1, 2), t(1, -1, 1)).isKaleidoscope());
        Chamberwright x = house(t(0, 1, 0), t(1, 1, 0));
        CHECK.no("one is reflected into none, the other too", x.isKaleidoscope());
        x.line(1, 0, 0);
        CHECK.no("only 0 1 0 in 1 1 0 is there now", x.isKaleidoscope());
        x.line(1, -1, 0);
        CHECK.yes("and now all", x.isKaleidoscope());
        x.takeAway(0);
        CHECK.no("one less", x.isKaleidoscope());
        CHECK.no("only 1 -1 0 is reflected into none", house(t(1, -1, 0), t(1, 0, 0), t(0, 1, 0)).isKaleidoscope());
        Chamberwright left = house(t(1, 0, 0), t(1, 1, 0));
        left.takeAway(1);
        CHECK.yes("the one that is left", left.isKaleidoscope());
    }

    private static String told(Chamberwright x) {
        int[] answers = new int[x.pairs() + 2];
        for (int place = 0; place < answers.length; place++) {
            answers[place] = x.pair(place);
        }
        return Check.row(answers);
    }

    private static void pairsAreNumbered() {
        CHECK.same("no LINES", told(new Chamberwright()), "-1 -1");
        CHECK.same("three in a triangle", told(house(t(1, 0, 0), t(0, 1, 0), t(1, 1, 2))), "3 5 6 -1 -1");
        CHECK.same("four through one", told(house(t(1, 0, 0), t(0, 1, 0), t(1, 1, 0), t(1, -1, 0))),
                "3 5 9 -1 -1");
        CHECK.same("beside one another", told(house(t(1, 0, 0), t(1, 0, 1), t(1, 0, 2))), "-1 -1");
        CHECK.same("lowest at one MEET, not at another",
                told(house(t(1, 0, 1), t(1, 0, 0), t(0, 1, 0), t(1, 1, 0))), "5 9 6 10 -1 -1");
        CHECK.same("by the lower LINE, then by the higher one",
                told(house(t(1, 0, 5), t(0, 1, 5), t(0, 1, 3), t(1, 1, 1))), "3 5 9 10 12 -1 -1");
        Chamberwright x = house(t(1, 0, 0), t(0, 1, 0), t(1, 1, 0), t(1, -1, 1));
        CHECK.same("pairs() with one past the MEET", x.pairs(), 5);
        CHECK.same("pair(MAX)", x.pair(Integer.MAX_VALUE), -1);
        x.takeAway(0);
        CHECK.same("another one is the lowest then", told(x), "3 5 6 -1 -1");
    }

    private static void pairsAreRefused() {
        Check.Made made = () -> house(t(1, 0, 0), t(0, 1, 0));
        CHECK.refused(made, "pair(-1)", NO_SUCH, y -> y.pair(-1));
        CHECK.refused(made, "pair(MIN)", NO_SUCH, y -> y.pair(Integer.MIN_VALUE));
    }
}
