/** Promises 1 to 8: a new object, LINES, MEETS, the polynomial in two ways, points over primes. */
public final class LinesTest {
    private static final Check CHECK = new Check("LinesTest");

    private LinesTest() {
    }

    public static void main(String[] args) {
        aNewObject();
        linesAreNumbered();
        linesAreRefused();
        rangeIsLookedAtFirst();
        linesAreTakenAway();
        meetsAreInOrder();
        meetsAreTold();
        meetsAreRefused();
        polynomialOfManyThroughOne();
        polynomialIsRefused();
        pointsOverPrimes();
        pointsAreRefused();
        CHECK.endsWell();
    }

    private static Chamberwright house(int[]... tellings) {
        Chamberwright x = new Chamberwright();
        for (int[] telling : tellings) {
            x.line(telling[0], telling[1], telling[2]);
        }
        return x;
    }

    private static int[] t(int a, int b, int c) {
        return new int[] {a, b, c};
    }

    private static void aNewObject() {
        Chamberwright x = new Chamberwright();
        CHECK.same("NONE", Chamberwright.NONE, -1);
        CHECK.same("new meets()", x.meets(), 0);
        CHECK.same("new rooms()", x.rooms(), 1);
        CHECK.same("new bounded()", x.bounded(), 0);
        CHECK.same("new roomOf(0) and roomOf(1)", Check.row(x.roomOf(0), x.roomOf(1)), "0 -1");
        CHECK.same("new room(0)", Check.row(x.room(0, 0), x.room(0, 1), x.room(0, 2), x.room(0, 3)), "0 0 0 0");
        CHECK.same("new gallery", Check.row(x.galleries(0, 0), x.gallery(0, 0, 0), x.gallery(0, 0, 1)), "1 0 -1");
        CHECK.same("new pairs()", x.pairs(), 0);
        CHECK.same("new polynomial", Check.row(x.polynomial(2), x.polynomial(1), x.polynomial(0)), "1 0 0");
        CHECK.same("new polynomialAnew",
                Check.row(x.polynomialAnew(2), x.polynomialAnew(1), x.polynomialAnew(0)), "1 0 0");
        CHECK.same("new points(2)", x.points(2), 4);
        CHECK.same("new points(31)", x.points(31), 961);
        CHECK.same("new colourings(6)", x.colourings(6), 46656);
        CHECK.same("new directions()", x.directions(), 1);
        CHECK.same("first EDGE of a new object", x.edge(0, 1), 1);
        CHECK.same("first LINE of a new object", x.line(-9, 9, -9), 0);
        CHECK.same("another object stays new", new Chamberwright().rooms(), 1);
    }

    private static void linesAreNumbered() {
        Chamberwright x = new Chamberwright();
        for (int i = 0; i < 9; i++) {
            CHECK.same("LINE " + i, x.line(1, i, 9 - i), i);
        }
        Check.Made made = () -> house(t(1, 0, 9), t(1, 1, 8), t(1, 2, 7), t(1, 3, 6), t(1, 4, 5), t(1, 5, 4),
                t(1, 6, 3), t(1, 7, 2), t(1, 8, 1));
        CHECK.refused(made, "a tenth LINE", IllegalStateException.class, y -> y.line(0, 1, 9));
        CHECK.refused(made, "a tenth LINE that is there", IllegalStateException.class, y -> y.line(1, 0, 9));
        CHECK.same("takeAway(8)", x.takeAway(8), 8);
        CHECK.same("a ninth LINE again", x.line(0, -9, 9), 8);
    }

    private static void linesAreRefused() {
        Check.Made made = () -> house(t(1, 2, 3), t(0, 3, 0), t(4, 0, 6), t(3, -6, 9));
        Class<IllegalStateException> there = IllegalStateException.class;
        CHECK.refused(made, "line(1, 2, 3)", there, y -> y.line(1, 2, 3));
        CHECK.refused(made, "line(-3, -6, -9)", there, y -> y.line(-3, -6, -9));
        CHECK.refused(made, "line(0, -1, 0)", there, y -> y.line(0, -1, 0));
        CHECK.refused(made, "line(-6, 0, -9)", there, y -> y.line(-6, 0, -9));
        CHECK.refused(made, "line(-2, 4, -6)", there, y -> y.line(-2, 4, -6));
        Chamberwright x = made.anew();
        CHECK.same("a LINE beside one", x.line(1, 2, -3), 4);
        CHECK.same("a LINE with another slope", x.line(1, -2, -3), 5);
        CHECK.same("a LINE through the same x", x.line(4, 1, 6), 6);
        CHECK.same("a LINE through the origin", x.line(9, 9, 0), 7);
    }

    private static void rangeIsLookedAtFirst() {
        Class<IllegalArgumentException> wrong = IllegalArgumentException.class;
        Check.Made made = () -> house(t(1, 1, 1));
        int[] outside = {10, -10, 18, Integer.MAX_VALUE, Integer.MIN_VALUE};
        for (int far : outside) {
            CHECK.refused(made, "line(" + far + ", 1, 1)", wrong, y -> y.line(far, 1, 1));
            CHECK.refused(made, "line(1, " + far + ", 1)", wrong, y -> y.line(1, far, 1));
            CHECK.refused(made, "line(1, 1, " + far + ")", wrong, y -> y.line(1, 1, far));
        }
        CHECK.refused(made, "line(10, 10, 10), which is there", wrong, y -> y.line(10, 10, 10));
        CHECK.refused(made, "line(0, 0, 0)", wrong, y -> y.line(0, 0, 0));
        CHECK.refused(made, "line(0, 0, 5)", wrong, y -> y.line(0, 0, 5));
        Check.Made full = () -> house(t(1, 1, 1), t(1, -9, 0), t(1, -9, 1), t(1, -9, 2), t(1, -9, 3), t(1, -9, 4),
                t(1, -9, 5), t(1, -9, 6), t(1, -9, 7));
        CHECK.refused(full, "line(0, 0, 1) with 9", wrong, y -> y.line(0, 0, 1));
        CHECK.refused(full, "line(1, 2, 10) with 9", wrong, y -> y.line(1, 2, 10));
    }

    private static void linesAreTakenAway() {
        Check.Made made = () -> house(t(1, 0, 0), t(0, 1, 0), t(1, 1, 2));
        Class<IndexOutOfBoundsException> none = IndexOutOfBoundsException.class;
        CHECK.refused(made, "takeAway(3)", none, y -> y.takeAway(3));
        CHECK.refused(made, "takeAway(-1)", none, y -> y.takeAway(-1));
        CHECK.refused(made, "takeAway(MAX)", none, y -> y.takeAway(Integer.MAX_VALUE));
        CHECK.refused(made, "takeAway(MIN)", none, y -> y.takeAway(Integer.MIN_VALUE));
        Chamberwright x = made.anew();
        CHECK.same("takeAway(0)", x.takeAway(0), 2);
        CHECK.same("those behind have less", Snapshot.of(x), Snapshot.of(house(t(0, 1, 0), t(1, 1, 2))));
        CHECK.same("the one taken away may come again", x.line(-1, 0, 0), 2);
        CHECK.same("takeAway(1)", x.takeAway(1), 2);
        CHECK.same("those ahead stay", Snapshot.of(x), Snapshot.of(house(t(0, 1, 0), t(-1, 0, 0))));
        CHECK.same("takeAway(1)", x.takeAway(1), 1);
        CHECK.same("takeAway(0)", x.takeAway(0), 0);
        CHECK.same("an empty house", Snapshot.of(x), Snapshot.of(new Chamberwright()));
        Check.Made emptied = () -> {
            Chamberwright y = house(t(1, 2, 3));
            y.takeAway(0);
            return y;
        };
        CHECK.refused(emptied, "takeAway(0) of none", none, y -> y.takeAway(0));
    }

    private static String meetsOf(Chamberwright x) {
        StringBuilder text = new StringBuilder();
        for (int meet = 0; meet < x.meets(); meet++) {
            text.append(Check.row(x.meet(meet, 0), x.meet(meet, 1), x.meet(meet, 2), x.meet(meet, 3))).append("; ");
        }
        return text.toString();
    }

    private static void meetsAreInOrder() {
        CHECK.same("by x, then by y", meetsOf(house(t(1, 0, 0), t(1, 0, -1), t(0, 1, 1), t(0, 1, -1))),
                "-1 -1 1 10; -1 1 1 6; 0 -1 1 9; 0 1 1 5; ");
        CHECK.same("by fractions", meetsOf(house(t(0, 1, 0), t(3, 0, 1), t(2, 0, 1), t(5, 0, 2))),
                "1 0 3 3; 2 0 5 9; 1 0 2 5; ");
        CHECK.same("below 0 too", meetsOf(house(t(1, 0, 0), t(0, 3, -1), t(0, 2, -1), t(0, 9, 1))),
                "0 -1 2 5; 0 -1 3 3; 0 1 9 9; ");
    }

    private static void meetsAreTold() {
        CHECK.same("D above 0", meetsOf(house(t(0, 1, 3), t(1, 0, -2))), "-2 3 1 3; ");
        CHECK.same("nothing divides all three", meetsOf(house(t(2, 4, 6), t(4, -2, 8))), "11 2 5 3; ");
        CHECK.same("x and y with unlike parts", meetsOf(house(t(2, 0, 3), t(0, 3, -1))), "9 -2 6 3; ");
        CHECK.same("far away", meetsOf(house(t(9, 8, 9), t(8, 7, -9))), "-135 153 1 3; ");
        CHECK.same("all through one", meetsOf(house(t(1, 0, 1), t(0, 1, 1), t(1, 1, 2), t(1, -1, 0), t(2, 1, 3))),
                "1 1 1 31; ");
        CHECK.same("lines beside one another", meetsOf(house(t(1, 1, 0), t(-2, -2, 5), t(3, 3, 7))), "");
        CHECK.same("meets() counts one for many", house(t(1, 0, 1), t(0, 1, 1), t(1, 1, 2)).meets(), 1);
    }

    private static void meetsAreRefused() {
        Check.Made made = () -> house(t(1, 0, 0), t(0, 1, 0));
        CHECK.refused(made, "meet(1, 0)", IndexOutOfBoundsException.class, y -> y.meet(1, 0));
        CHECK.refused(made, "meet(-1, 0)", IndexOutOfBoundsException.class, y -> y.meet(-1, 0));
        CHECK.refused(made, "meet(MIN, 9)", IndexOutOfBoundsException.class, y -> y.meet(Integer.MIN_VALUE, 9));
        CHECK.refused(made, "meet(1, 4)", IndexOutOfBoundsException.class, y -> y.meet(1, 4));
        CHECK.refused(made, "meet(0, 4)", IllegalArgumentException.class, y -> y.meet(0, 4));
        CHECK.refused(made, "meet(0, -1)", IllegalArgumentException.class, y -> y.meet(0, -1));
    }

    private static String polynomialOf(Chamberwright x) {
        String way = Check.row(x.polynomial(2), x.polynomial(1), x.polynomial(0));
        String otherWay = Check.row(x.polynomialAnew(2), x.polynomialAnew(1), x.polynomialAnew(0));
        CHECK.same("polynomialAnew", otherWay, way);
        return way;
    }

    private static void polynomialOfManyThroughOne() {
        CHECK.same("one LINE", polynomialOf(house(t(1, 5, 2))), "1 -1 0");
        CHECK.same("three beside one another", polynomialOf(house(t(1, 0, 0), t(1, 0, 1), t(1, 0, 2))), "1 -3 0");
        CHECK.same("three that cross in three", polynomialOf(house(t(1, 0, 0), t(0, 1, 0), t(1, 1, 1))), "1 -3 3");
        CHECK.same("four through one", polynomialOf(house(t(1, 0, 0), t(0, 1, 0), t(1, 1, 0), t(1, -1, 0))), "1 -4 3");
        CHECK.same("three through one and one past it",
                polynomialOf(house(t(1, 0, 0), t(0, 1, 0), t(1, 1, 0), t(1, 0, 2))), "1 -4 4");
    }

    private static void polynomialIsRefused() {
        Check.Made made = () -> house(t(1, 0, 0), t(0, 1, 0));
        int[] outside = {3, -1, Integer.MAX_VALUE, Integer.MIN_VALUE};
        for (int power : outside) {
            CHECK.refused(made, "polynomial(" + power + ")", IllegalArgumentException.class, y -> y.polynomial(power));
            CHECK.refused(made, "polynomialAnew(" + power + ")", IllegalArgumentException.class,
                    y -> y.polynomialAnew(power));
        }
    }

    private static void pointsOverPrimes() {
        Chamberwright x = house(t(3, 6, 9));
        CHECK.same("each point is on 3 6 9 over 3", x.points(3), 0);
        CHECK.same("3 6 9 over 2", x.points(2), 2);
        CHECK.same("3 6 9 over 5", x.points(5), 20);
        CHECK.same("no point is on 5 -5 3 over 5", house(t(5, -5, 3)).points(5), 25);
        CHECK.same("each point is on 7 0 -7 over 7", house(t(7, 0, -7)).points(7), 0);
        Chamberwright two = house(t(1, 0, 0), t(1, 0, 2));
        CHECK.same("two are one over 2", two.points(2), 2);
        CHECK.same("two beside one another over 3", two.points(3), 3);
        CHECK.same("two that fill all over 2", house(t(1, 0, 0), t(1, 0, 1)).points(2), 0);
        int[] primes = {11, 13, 17, 19, 23, 29, 31};
        Chamberwright three = house(t(1, 0, 0), t(0, 1, 0), t(1, 1, 1));
        for (int prime : primes) {
            CHECK.same("points(" + prime + ")", three.points(prime), prime * prime - 3 * prime + 3);
        }
        CHECK.same("c below 0 over 3", house(t(1, 0, -1), t(1, 0, 2)).points(3), 6);
    }

    private static void pointsAreRefused() {
        Check.Made made = () -> house(t(1, 0, 0));
        int[] none = {-31, -2, 0, 1, 4, 6, 8, 9, 15, 21, 25, 27, 30, 32, 33, 35, 37, 1000003,
            Integer.MAX_VALUE, Integer.MIN_VALUE};
        for (int number : none) {
            CHECK.refused(made, "points(" + number + ")", IllegalArgumentException.class, y -> y.points(number));
        }
    }
}
