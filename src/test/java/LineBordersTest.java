/** Promises 1 to 8: one test for each sentence that tells of a border, in the order of the document. */
public final class LineBordersTest {
    private static final Check CHECK = new Check("LineBordersTest");
    private static final Class<IndexOutOfBoundsException> NO_SUCH = IndexOutOfBoundsException.class;
    private static final Class<IllegalArgumentException> WRONG = IllegalArgumentException.class;
    private static final Class<IllegalStateException> NOT_NOW = IllegalStateException.class;
    private static final int GREATEST = Integer.MAX_VALUE;
    private static final int LEAST = Integer.MIN_VALUE;
    private static final int[] PRIMES = {2, 3, 5, 7, 11, 13, 17, 19, 23, 29, 31};

    private LineBordersTest() {
    }

    public static void main(String[] args) {
        CHECK.sentence("1: No LINES", LineBordersTest::aNewObjectHasNoLines);
        CHECK.sentence("1: No EDGES", LineBordersTest::aNewObjectHasNoEdges);
        CHECK.sentence("2: a, b and c, each -9 to 9", LineBordersTest::everyTellingInRangeIsDrawn);
        CHECK.sentence("2: Throws IllegalArgumentException if a, b or c is out of range",
                LineBordersTest::outOfRangeIsRefused);
        CHECK.sentence("2: Throws IllegalArgumentException if a and b are both 0", LineBordersTest::bothZeroIsRefused);
        CHECK.sentence("2: Two tellings are one LINE, if they have the same points",
                LineBordersTest::theSamePointsAreOneLine);
        CHECK.sentence("2: Throws IllegalStateException if it is one that is there",
                LineBordersTest::oneThatIsThereIsRefused);
        CHECK.sentence("2: Throws IllegalStateException if there are 9", LineBordersTest::aTenthIsRefused);
        CHECK.sentence("2: the exception that the @throws lines name first is thrown",
                LineBordersTest::rangeIsNamedFirst);
        CHECK.sentence("2: LINES are numbered from 0, up to 9", LineBordersTest::linesReturnTheirNumbers);
        CHECK.sentence("2: above a LINE, as it was told, whatever else tells the same LINE",
                LineBordersTest::aboveGoesByTheFirstTelling);
        CHECK.sentence("3: Throws IndexOutOfBoundsException if there is no such LINE",
                LineBordersTest::noSuchLineIsTakenAway);
        CHECK.sentence("3: Returns how many there are then", LineBordersTest::howManyThereAreThen);
        CHECK.sentence("3: when one is taken away, those behind it have numbers less by 1",
                LineBordersTest::thoseBehindHaveLess);
        CHECK.sentence("4: A MEET is a point that is on two LINES or more", LineBordersTest::meetsAreOnTwoLinesOrMore);
        CHECK.sentence("5: MEETS are numbered by their x, lower ones first, of those with one x by their y",
                LineBordersTest::meetsAreNumberedByXThenY);
        CHECK.sentence("5: D is above 0, and no number above 1 divides all three",
                LineBordersTest::meetsHaveLowestTerms);
        CHECK.sentence("5: Throws IndexOutOfBoundsException if there is no such MEET", LineBordersTest::noSuchMeet);
        CHECK.sentence("5: Throws IllegalArgumentException if what is out of range",
                LineBordersTest::whatOfAMeetIsOutOfRange);
        CHECK.sentence("5: of meet's exceptions the one named first", LineBordersTest::noSuchMeetIsNamedFirst);
        CHECK.sentence("6, 7: power, 0 to 2: that of t", LineBordersTest::powersInRange);
        CHECK.sentence("6: for each MEET, as many as there are LINES through it, less 1",
                LineBordersTest::eachMeetLessOne);
        CHECK.sentence("7: more by as many as there are points on it and on LINES with lower numbers",
                LineBordersTest::pointsOnLowerLines);
        CHECK.sentence("6, 7: Throws IllegalArgumentException if power is out of range",
                LineBordersTest::powersOutOfRange);
        CHECK.sentence("8: a prime number from 2 to 31", LineBordersTest::pointsOverTheLeastAndTheGreatestPrime);
        CHECK.sentence("8: Throws IllegalArgumentException if prime is none of these",
                LineBordersTest::noneOfThesePrimes);
        CHECK.sentence("8: is a multiple of the prime, also if a and b are such",
                LineBordersTest::alsoIfAAndBAreMultiples);
        CHECK.sentence("8: of no LINE, as it was told", LineBordersTest::pointsAsTold);
        CHECK.endsWell();
    }

    /** Refused for an object of every house. */
    private static void refusedInAll(String what, Class<? extends RuntimeException> kind, Check.Asked call) {
        for (House house : House.values()) {
            CHECK.refused(house, what + " of " + house, kind, call);
        }
    }

    // ---- promise 1

    private static void aNewObjectHasNoLines() {
        CHECK.same("takeAway(0)", Check.thrownBy(new Chamberwright(), x -> x.takeAway(0)), "IndexOutOfBoundsException");
        CHECK.same("the number of t", new Chamberwright().polynomial(1), 0);
        CHECK.same("meets()", new Chamberwright().meets(), 0);
        CHECK.same("rooms()", new Chamberwright().rooms(), 1);
        CHECK.same("the first LINE", new Chamberwright().line(1, 2, 3), 0);
        Chamberwright x = House.FULL.anew();
        CHECK.same("LINES of an object beside a full one", new Chamberwright().polynomial(1), 0);
        CHECK.same("LINES of the full one", x.polynomial(1), -9);
    }

    private static void aNewObjectHasNoEdges() {
        int[] dots = House.allDots();
        for (int at = 0; at < dots.length; at += 2) {
            int turned = new Chamberwright().edge(dots[at], dots[at + 1]);
            CHECK.same("edge(" + dots[at] + ", " + dots[at + 1] + ")", turned, 1);
        }
        CHECK.same("colourings(1)", new Chamberwright().colourings(1), 1);
        CHECK.same("directions()", new Chamberwright().directions(), 1);
        House.turn(new Chamberwright(), dots);
        CHECK.same("EDGES of an object beside a full one", new Chamberwright().edge(0, 1), 1);
    }

    // ---- promise 2

    private static void everyTellingInRangeIsDrawn() {
        for (int a = -9; a <= 9; a++) {
            for (int b = -9; b <= 9; b++) {
                for (int c = -9; c <= 9; c++) {
                    if (a != 0 || b != 0) {
                        isDrawnAsTold(a, b, c);
                    }
                }
            }
        }
    }

    /** The LINE across it through the origin meets it at a c / (a a + b b), b c / (a a + b b). */
    private static void isDrawnAsTold(int a, int b, int c) {
        Chamberwright x = new Chamberwright();
        String told = "line(" + a + ", " + b + ", " + c + ")";
        CHECK.same(told, x.line(a, b, c), 0);
        x.line(-b, a, 0);
        int square = a * a + b * b;
        CHECK.same("meets() behind " + told, x.meets(), 1);
        CHECK.same("x behind " + told, (long) x.meet(0, 0) * square, (long) a * c * x.meet(0, 2));
        CHECK.same("y behind " + told, (long) x.meet(0, 1) * square, (long) b * c * x.meet(0, 2));
    }

    private static void outOfRangeIsRefused() {
        for (int far : new int[] {-10, 10, LEAST, GREATEST}) {
            refusedInAll("line(" + far + ", -9, 9)", WRONG, x -> x.line(far, -9, 9));
            refusedInAll("line(9, " + far + ", 0)", WRONG, x -> x.line(9, far, 0));
            refusedInAll("line(0, 1, " + far + ")", WRONG, x -> x.line(0, 1, far));
            refusedInAll("line(" + far + ", " + far + ", " + far + ")", WRONG, x -> x.line(far, far, far));
        }
        for (int far : new int[] {11, -11, 18, 19, 64, 128, 256, -256, 1 << 16, 1 << 30, LEAST + 1, LEAST + 9}) {
            CHECK.refused(House.ACROSS, "line(" + far + ", 1, 1)", WRONG, x -> x.line(far, 1, 1));
            CHECK.refused(House.ACROSS, "line(1, " + far + ", 1)", WRONG, x -> x.line(1, far, 1));
            CHECK.refused(House.ACROSS, "line(1, 1, " + far + ")", WRONG, x -> x.line(1, 1, far));
        }
    }

    private static void bothZeroIsRefused() {
        for (int c = -10; c <= 10; c++) {
            int third = c;
            CHECK.refused(House.TRIANGLE, "line(0, 0, " + c + ")", WRONG, x -> x.line(0, 0, third));
        }
        refusedInAll("line(0, 0, 0)", WRONG, x -> x.line(0, 0, 0));
        refusedInAll("line(0, 0, 9)", WRONG, x -> x.line(0, 0, 9));
        CHECK.same("line(0, 1, 0)", new Chamberwright().line(0, 1, 0), 0);
        CHECK.same("line(0, -1, 9)", new Chamberwright().line(0, -1, 9), 0);
        CHECK.same("line(1, 0, 0)", new Chamberwright().line(1, 0, 0), 0);
        CHECK.same("line(-1, 0, -9)", new Chamberwright().line(-1, 0, -9), 0);
    }

    private static void theSamePointsAreOneLine() {
        int[] firsts = {1, 2, 3, 1, 0, 0, 0, 1, 0, -3, 0, -6, 0, 7, 9, 4, -6, 8, 9, 9, 9, -9, 9, 0, 5, 3, -7, 0, -9, 9};
        for (int at = 0; at < firsts.length; at += 3) {
            int[] first = {firsts[at], firsts[at + 1], firsts[at + 2]};
            for (int a = -9; a <= 9; a++) {
                for (int b = -9; b <= 9; b++) {
                    for (int c = -9; c <= 9; c++) {
                        if (a != 0 || b != 0) {
                            isOneWith(first, new int[] {a, b, c});
                        }
                    }
                }
            }
        }
    }

    private static void isOneWith(int[] first, int[] second) {
        String what = "line(" + Check.row(second) + ") behind line(" + Check.row(first) + ")";
        if (hasPointsOf(first, second)) {
            CHECK.refused(() -> House.of(first), what, NOT_NOW, x -> x.line(second[0], second[1], second[2]));
        } else {
            CHECK.same(what, House.of(first).line(second[0], second[1], second[2]), 1);
        }
    }

    /** Looks at two points of the first: at its foot below the origin, and one step along it from there. */
    private static boolean hasPointsOf(int[] first, int[] second) {
        int square = first[0] * first[0] + first[1] * first[1];
        int x = first[0] * first[2];
        int y = first[1] * first[2];
        return second[0] * x + second[1] * y == second[2] * square
                && second[0] * (x - first[1] * square) + second[1] * (y + first[0] * square) == second[2] * square;
    }

    private static void oneThatIsThereIsRefused() {
        for (House house : House.values()) {
            for (int line = 0; line < house.lines(); line++) {
                int[] t = house.telling(line);
                String what = "LINE " + line + " of " + house;
                CHECK.refused(house, what + " again", NOT_NOW, x -> x.line(t[0], t[1], t[2]));
                CHECK.refused(house, what + " told the other way round", NOT_NOW, x -> x.line(-t[0], -t[1], -t[2]));
            }
        }
        CHECK.refused(() -> House.FULL.without(4), "the last of eight", NOT_NOW, x -> x.line(-5, -7, -9));
        CHECK.same("one that is there no more", House.FULL.without(4).line(-2, -1, 2), 8);
        CHECK.same("one that is not there, but beside one", House.of(9, 9, 9).line(9, 9, 8), 1);
    }

    private static void aTenthIsRefused() {
        for (House house : House.values()) {
            if (house.lines() == 9) {
                CHECK.refused(house, "a tenth LINE of " + house, NOT_NOW, x -> x.line(7, -5, 3));
                CHECK.refused(house, "a tenth LINE of " + house, NOT_NOW, x -> x.line(-9, 8, -9));
                CHECK.same("a ninth LINE of " + house, house.without(0).line(7, -5, 3), 8);
            }
        }
    }

    private static void rangeIsNamedFirst() {
        CHECK.refused(House.FULL, "out of range with 9", WRONG, x -> x.line(10, 0, 0));
        CHECK.refused(House.FULL, "both 0 with 9", WRONG, x -> x.line(0, 0, 9));
        CHECK.refused(House.PENCIL, "10 10 20, which is there", WRONG, x -> x.line(10, 10, 20));
        CHECK.refused(() -> House.of(9, 9, 9), "10 10 10, which is there", WRONG, x -> x.line(10, 10, 10));
        CHECK.refused(() -> House.of(5, 0, 5), "5 0 5, told as 10 0 10", WRONG, x -> x.line(10, 0, 10));
        CHECK.refused(() -> House.of(0, 5, -5), "0 5 -5, told as 0 -10 10", WRONG, x -> x.line(0, -10, 10));
    }

    private static void linesReturnTheirNumbers() {
        for (House house : House.values()) {
            Chamberwright x = new Chamberwright();
            for (int line = 0; line < house.lines(); line++) {
                int[] t = house.telling(line);
                CHECK.same("LINE " + line + " of " + house, x.line(t[0], t[1], t[2]), line);
            }
        }
        Chamberwright x = House.FULL.anew();
        x.takeAway(3);
        x.takeAway(0);
        CHECK.same("the eighth, behind two that were taken away", x.line(9, 9, 9), 7);
        CHECK.same("the ninth", x.line(9, 9, -9), 8);
    }

    private static void aboveGoesByTheFirstTelling() {
        CHECK.same("as told", sets(House.of(1, 0, 1, 1, 0, 3)), "0 1 3");
        CHECK.same("told the other way round", sets(House.of(-2, 0, -2, 1, 0, 3)), "0 1 2");
        Chamberwright x = House.of(-2, 0, -2, 1, 0, 3);
        Check.thrownBy(x, y -> y.line(1, 0, 1));
        CHECK.same("told again, which is refused", sets(x), "0 1 2");
        x.line(1, 0, 4);
        CHECK.same("and looked at anew", sets(x), "0 1 2 6");
        x.takeAway(2);
        x.takeAway(0);
        x.line(2, 0, 2);
        CHECK.same("taken away and told again", sets(x), "0 2 3");
    }

    private static String sets(Chamberwright x) {
        int[] sets = new int[x.rooms()];
        for (int room = 0; room < sets.length; room++) {
            sets[room] = x.room(room, 0);
        }
        return Check.row(sets);
    }

    // ---- promise 3

    private static void noSuchLineIsTakenAway() {
        for (House house : House.values()) {
            for (int line : new int[] {-1, house.lines(), house.lines() + 1, 9, 10, LEAST, GREATEST}) {
                CHECK.refused(house, "takeAway(" + line + ") of " + house, NO_SUCH, x -> x.takeAway(line));
            }
            if (house.lines() > 0) {
                CHECK.same("takeAway(0) of " + house, house.anew().takeAway(0), house.lines() - 1);
                CHECK.same("the last of " + house, house.anew().takeAway(house.lines() - 1), house.lines() - 1);
            }
        }
    }

    private static void howManyThereAreThen() {
        Chamberwright x = House.FULL.anew();
        Chamberwright y = House.FULL.anew();
        for (int left = 8; left >= 0; left--) {
            CHECK.same("the first away", x.takeAway(0), left);
            CHECK.same("the number of t then", x.polynomial(1), -left);
            CHECK.same("the last away", y.takeAway(left), left);
        }
    }

    private static void thoseBehindHaveLess() {
        for (House house : House.values()) {
            for (int line = 0; line < house.lines(); line++) {
                Chamberwright x = house.anew();
                x.takeAway(line);
                CHECK.same("LINE " + line + " of " + house, Snapshot.last(x), Snapshot.last(house.without(line)));
            }
        }
        Chamberwright x = House.FULL.anew();
        x.takeAway(2);
        x.takeAway(2);
        CHECK.same("two, the one behind the other", Snapshot.last(x), Snapshot.last(House.FULL.without(2, 3)));
    }

    // ---- promises 4 and 5

    private static void meetsAreOnTwoLinesOrMore() {
        for (House house : House.values()) {
            CHECK.same("meets() of " + house, house.anew().meets(), house.meets);
            for (int[] point : house.points()) {
                CHECK.same("LINES through " + Check.row(point) + " of " + house, point[3], through(house, point));
                CHECK.yes("two LINES or more", Integer.bitCount(point[3]) >= 2);
            }
        }
        CHECK.same("LINES through the one of nine", House.PENCIL.anew().meet(0, 3), 511);
        CHECK.same("LINES through the last MEET of two", House.ACROSS.anew().meet(0, 3), 3);
    }

    private static int through(House house, int[] point) {
        int set = 0;
        for (int line = 0; line < house.lines(); line++) {
            set |= house.height(line, point) == 0 ? 1 << line : 0;
        }
        return set;
    }

    private static void meetsAreNumberedByXThenY() {
        for (House house : House.values()) {
            int[][] points = house.points();
            for (int meet = 1; meet < points.length; meet++) {
                int byX = points[meet - 1][0] * points[meet][2] - points[meet][0] * points[meet - 1][2];
                int byY = points[meet - 1][1] * points[meet][2] - points[meet][1] * points[meet - 1][2];
                CHECK.yes("MEET " + meet + " of " + house + " behind the one ahead", byX < 0 || byX == 0 && byY < 0);
            }
        }
        CHECK.same("one x, three y", meets(House.of(1, 0, -4, 0, 1, 9, 0, 1, -9, 0, 2, 1)),
                "-4 -9 1 5; -8 1 2 9; -4 9 1 3; ");
        CHECK.same("x by whole numbers below 0", meets(House.of(0, 1, 0, 1, 0, -9, 2, 0, -9, 2, 0, 9)),
                "-9 0 1 3; -9 0 2 5; 9 0 2 9; ");
    }

    private static String meets(Chamberwright x) {
        StringBuilder text = new StringBuilder();
        for (int meet = 0; meet < x.meets(); meet++) {
            text.append(Check.row(x.meet(meet, 0), x.meet(meet, 1), x.meet(meet, 2), x.meet(meet, 3))).append("; ");
        }
        return text.toString();
    }

    private static void meetsHaveLowestTerms() {
        for (House house : House.values()) {
            for (int[] point : house.points()) {
                CHECK.yes("D of " + Check.row(point) + " of " + house, point[2] > 0);
                for (int by = 2; by <= point[2]; by++) {
                    CHECK.no(by + " divides " + Check.row(point) + " of " + house,
                            point[0] % by == 0 && point[1] % by == 0 && point[2] % by == 0);
                }
            }
        }
        CHECK.same("the origin", meets(House.of(9, 9, 0, -9, 9, 0)), "0 0 1 3; ");
        CHECK.same("x alone is 0", meets(House.of(-9, 3, 6, 9, 4, 8)), "0 2 1 3; ");
        CHECK.same("y alone is 0", meets(House.of(8, 4, 4, 8, -6, 4)), "1 0 2 3; ");
        CHECK.same("nothing to divide", meets(House.of(9, 8, 9, -8, 9, 8)), "17 144 145 3; ");
        CHECK.same("two of three have a divisor", meets(House.of(3, 0, 1, 0, 2, 1)), "2 3 6 3; ");
        CHECK.same("the farthest", meets(House.of(9, 8, -9, -8, -7, -9)), "135 -153 1 3; ");
    }

    private static void noSuchMeet() {
        for (House house : House.values()) {
            for (int meet : new int[] {-1, house.meets, house.meets + 1, 36, LEAST, GREATEST}) {
                CHECK.refused(house, "meet(" + meet + ", 0) of " + house, NO_SUCH, x -> x.meet(meet, 0));
                CHECK.refused(house, "meet(" + meet + ", 3) of " + house, NO_SUCH, x -> x.meet(meet, 3));
            }
        }
        CHECK.same("meet(35, 3) of 36", Integer.bitCount(House.FULL.anew().meet(35, 3)), 2);
    }

    private static void whatOfAMeetIsOutOfRange() {
        for (int what : new int[] {-1, 4, LEAST, GREATEST}) {
            CHECK.refused(House.FULL, "meet(0, " + what + ")", WRONG, x -> x.meet(0, what));
            CHECK.refused(House.FULL, "meet(35, " + what + ")", WRONG, x -> x.meet(35, what));
        }
        CHECK.same("0 X; 1 Y; 2 D; 3 the set", meets(House.of(2, 0, 1, 0, 3, -2)), "3 -4 6 3; ");
    }

    private static void noSuchMeetIsNamedFirst() {
        for (House house : House.values()) {
            CHECK.refused(house, "meet(count, 4) of " + house, NO_SUCH, x -> x.meet(house.meets, 4));
            CHECK.refused(house, "meet(-1, -1) of " + house, NO_SUCH, x -> x.meet(-1, -1));
        }
    }

    // ---- promises 6 and 7

    private static String ways(Chamberwright x) {
        return Check.row(x.polynomial(2), x.polynomial(1), x.polynomial(0)) + ", "
                + Check.row(x.polynomialAnew(2), x.polynomialAnew(1), x.polynomialAnew(0));
    }

    private static void powersInRange() {
        CHECK.same("without LINES", ways(new Chamberwright()), "1 0 0, 1 0 0");
        CHECK.same("one LINE", ways(House.ONE.anew()), "1 -1 0, 1 -1 0");
        CHECK.same("nine without MEETS", ways(House.BESIDE.anew()), "1 -9 0, 1 -9 0");
        CHECK.same("nine that cross in pairs", ways(House.FULL.anew()), "1 -9 36, 1 -9 36");
        CHECK.same("emptied", ways(House.EMPTIED.anew()), "1 0 0, 1 0 0");
    }

    private static void eachMeetLessOne() {
        CHECK.same("nine through one", House.PENCIL.anew().polynomial(0), 8);
        CHECK.same("eight through one", House.NEAR_PENCIL.anew().polynomial(0), 15);
        CHECK.same("four through one, and one past it", House.PAST_STAR.anew().polynomial(0), 7);
        CHECK.same("two by two", House.WINDOW.anew().polynomial(0), 4);
    }

    private static void pointsOnLowerLines() {
        CHECK.same("nine through one", House.PENCIL.anew().polynomialAnew(0), 8);
        CHECK.same("eight through one", House.NEAR_PENCIL.anew().polynomialAnew(0), 15);
        CHECK.same("four through one, and one past it", House.PAST_STAR.anew().polynomialAnew(0), 7);
        CHECK.same("two by two", House.WINDOW.anew().polynomialAnew(0), 4);
        CHECK.same("the one past comes first",
                House.of(2, 1, -7, 1, 0, 1, 0, 1, 1, 1, 1, 2, 1, -1, 0).polynomialAnew(0), 7);
    }

    private static void powersOutOfRange() {
        for (int power : new int[] {-1, 3, LEAST, GREATEST}) {
            refusedInAll("polynomial(" + power + ")", WRONG, x -> x.polynomial(power));
            refusedInAll("polynomialAnew(" + power + ")", WRONG, x -> x.polynomialAnew(power));
        }
    }

    // ---- promise 8

    private static void pointsOverTheLeastAndTheGreatestPrime() {
        for (int prime : PRIMES) {
            CHECK.same("points(" + prime + ") without LINES", new Chamberwright().points(prime), prime * prime);
            CHECK.same("points(" + prime + ") emptied", House.EMPTIED.anew().points(prime), prime * prime);
            CHECK.same("points(" + prime + ") of x = 0", House.of(1, 0, 0).points(prime), prime * prime - prime);
            CHECK.same("points(" + prime + ") of two across", House.of(1, 0, 1, 0, -1, -1).points(prime),
                    (prime - 1) * (prime - 1));
        }
        CHECK.same("nine beside one another, over 31", House.BESIDE.anew().points(31), 31 * 22);
        CHECK.same("nine that cross in pairs, over 31", House.FULL.anew().points(31), House.FULL.model().points(31));
    }

    private static void noneOfThesePrimes() {
        for (int number = -40; number <= 1000; number++) {
            if (!isOneOfThese(number)) {
                int none = number;
                CHECK.refused(House.ACROSS, "points(" + number + ")", WRONG, x -> x.points(none));
            }
        }
        // The greatest int is a prime number too.
        for (int none : new int[] {LEAST, LEAST + 2, -31, -2, -1, 0, 1, 4, 9, 25, 30, 32, 37, 65537, GREATEST}) {
            refusedInAll("points(" + none + ")", WRONG, x -> x.points(none));
        }
    }

    private static boolean isOneOfThese(int number) {
        for (int prime : PRIMES) {
            if (prime == number) {
                return true;
            }
        }
        return false;
    }

    private static void alsoIfAAndBAreMultiples() {
        for (int prime : new int[] {2, 3, 5, 7}) {
            String over = " over " + prime;
            CHECK.same("a, b and c are multiples" + over, House.of(prime, -prime, prime).points(prime), 0);
            CHECK.same("a and b are, c is 0" + over, House.of(-prime, prime, 0).points(prime), 0);
            CHECK.same("a and b are, c is not" + over, House.of(prime, prime, 1).points(prime), prime * prime);
            CHECK.same("a is, b is 0, c is not" + over, House.of(prime, 0, -1).points(prime), prime * prime);
            CHECK.same("b is, a is 0, c is" + over, House.of(0, -prime, -prime).points(prime), 0);
            CHECK.same("a is, b is not" + over, House.of(prime, 1, 0).points(prime), prime * prime - prime);
            CHECK.same("one of two has all" + over, House.of(1, 0, 0, prime, prime, -prime).points(prime), 0);
            CHECK.same("one of two has none" + over, House.of(1, 0, 0, prime, prime, 1).points(prime),
                    prime * prime - prime);
        }
    }

    private static void pointsAsTold() {
        CHECK.same("1 0 1 over 2", House.of(1, 0, 1).points(2), 2);
        CHECK.same("2 0 2 over 2", House.of(2, 0, 2).points(2), 0);
        CHECK.same("-3 6 9 over 3", House.of(-3, 6, 9).points(3), 0);
        CHECK.same("-1 2 3 over 3", House.of(-1, 2, 3).points(3), 6);
        CHECK.same("c less than 0, over 31", House.of(-9, -9, -9).points(31), 31 * 30);
        CHECK.same("two beside one another are one over 7", House.of(1, 1, -3, 1, 1, 4).points(7), 42);
    }
}
