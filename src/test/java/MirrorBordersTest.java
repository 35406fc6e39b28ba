/** Promises 18 to 21: one test for each sentence that tells of a border, in the order of the document. */
public final class MirrorBordersTest {
    private static final Check CHECK = new Check("MirrorBordersTest");
    private static final Class<IndexOutOfBoundsException> NO_SUCH = IndexOutOfBoundsException.class;
    private static final int NONE = -1;
    private static final int GREATEST = Integer.MAX_VALUE;
    private static final int LEAST = Integer.MIN_VALUE;

    private MirrorBordersTest() {
    }

    public static void main(String[] args) {
        CHECK.sentence("18: in itself", MirrorBordersTest::inItself);
        CHECK.sentence("18: in another one, as in a mirror", MirrorBordersTest::inAnotherOne);
        CHECK.sentence("18: NONE if it is none of the house", MirrorBordersTest::noneIfItIsNoneOfTheHouse);
        CHECK.sentence("18: Throws IndexOutOfBoundsException if there is no such LINE, of either",
                MirrorBordersTest::noSuchLineOfEither);
        CHECK.sentence("19: for any two of its LINES, when there are no two",
                MirrorBordersTest::aKaleidoscopeWithFewerThanTwo);
        CHECK.sentence("19: for any two of its LINES the reflection of the one in the other one is one of its LINES",
                MirrorBordersTest::forAnyTwoOfItsLines);
        CHECK.sentence("20: A pair is two LINES with a MEET", MirrorBordersTest::pairsHaveAMeet);
        CHECK.sentence("20: of which one is the lowest LINE through it", MirrorBordersTest::oneIsTheLowestThroughIt);
        CHECK.sentence("21: Pairs are numbered from 0 by the lower LINE, then by the higher one",
                MirrorBordersTest::pairsAreNumberedByTheLowerLine);
        CHECK.sentence("21: NONE if there are not so many", MirrorBordersTest::noneIfNotSoManyPairs);
        CHECK.sentence("21: Throws IndexOutOfBoundsException if place is below 0", MirrorBordersTest::placeBelowZero);
        CHECK.endsWell();
    }

    // ---- promise 18

    private static void inItself() {
        for (House house : House.values()) {
            Chamberwright x = house.anew();
            for (int line = 0; line < house.lines(); line++) {
                CHECK.same("reflected(" + line + ", " + line + ") of " + house, x.reflected(line, line), line);
            }
        }
    }

    private static void inAnotherOne() {
        Chamberwright star = House.STAR.anew();
        CHECK.same("x = 1 in the others", Check.row(star.reflected(0, 1), star.reflected(0, 2), star.reflected(0, 3)),
                "0 1 1");
        CHECK.same("x + y = 2 in the others",
                Check.row(star.reflected(2, 0), star.reflected(2, 1), star.reflected(2, 3)), "3 3 2");
        CHECK.same("nine beside one another, in the middle one", Check.row(House.BESIDE.anew().reflected(0, 4),
                House.BESIDE.anew().reflected(8, 4), House.BESIDE.anew().reflected(3, 4)), "8 0 5");
        CHECK.same("told with other numbers, and the other way round",
                Check.row(House.of(1, 0, -9, -9, 0, 9, 1, 0, -4).reflected(0, 2),
                        House.of(1, 0, -9, -9, 0, 9, 1, 0, -4).reflected(1, 2)), "-1 -1");
        CHECK.same("the same with the middle between them",
                Check.row(House.of(1, 0, -9, -8, 0, -8, 1, 0, -4).reflected(0, 2),
                        House.of(1, 0, -9, -8, 0, -8, 1, 0, -4).reflected(1, 2)), "1 0");
        CHECK.same("over 3 4 5", House.of(4, 3, 0, 0, 1, 0, 2, -1, 0).reflected(1, 2), 0);
        CHECK.same("and back", House.of(4, 3, 0, 0, 1, 0, 2, -1, 0).reflected(0, 2), 1);
    }

    private static void noneIfItIsNoneOfTheHouse() {
        CHECK.same("the last of nine in the first", House.BESIDE.anew().reflected(8, 0), NONE);
        CHECK.same("the first of nine in the last", House.BESIDE.anew().reflected(0, 8), NONE);
        CHECK.same("one that cannot be told", House.of(1, 0, 0, 9, 8, 7).reflected(0, 1), NONE);
        CHECK.same("one that was taken away", House.STAR.without(1).reflected(0, 1), NONE);
        CHECK.same("one beside that one alone", House.of(1, 0, 0, 1, 0, 2, 1, 0, 5).reflected(0, 1), NONE);
        CHECK.same("with the slope of one, through another point", House.of(0, 1, 0, 1, 1, 2, 1, 0, 1).reflected(0, 1),
                NONE);
        CHECK.same("through the same point, with another slope", House.of(0, 1, 0, 1, 1, 2, 1, 2, 2).reflected(0, 1),
                NONE);
    }

    private static void noSuchLineOfEither() {
        for (House house : House.values()) {
            for (int line : new int[] {-1, house.lines(), house.lines() + 1, 9, LEAST, GREATEST}) {
                CHECK.refused(house, "reflected(" + line + ", 0) of " + house, NO_SUCH, x -> x.reflected(line, 0));
                CHECK.refused(house, "reflected(0, " + line + ") of " + house, NO_SUCH, x -> x.reflected(0, line));
                CHECK.refused(house, "reflected(" + line + " in itself) of " + house, NO_SUCH,
                        x -> x.reflected(line, line));
            }
        }
        CHECK.same("the last of nine in the last", House.FULL.anew().reflected(8, 8), 8);
    }

    // ---- promise 19

    private static void aKaleidoscopeWithFewerThanTwo() {
        CHECK.yes("without LINES", new Chamberwright().isKaleidoscope());
        CHECK.yes("emptied", House.EMPTIED.anew().isKaleidoscope());
        CHECK.yes("one LINE", House.ONE.anew().isKaleidoscope());
        CHECK.yes("one that was told with the greatest numbers", House.of(-9, 9, -9).isKaleidoscope());
        CHECK.yes("the one that is left of two", House.STRIP.without(0).isKaleidoscope());
    }

    private static void forAnyTwoOfItsLines() {
        boolean[] due = {true, true, false, true, false, false, true, false, false, false, false, false, false, true};
        for (House house : House.values()) {
            CHECK.same(house.toString(), Boolean.toString(house.anew().isKaleidoscope()),
                    Boolean.toString(due[house.ordinal()]));
        }
        for (int line = 0; line < 4; line++) {
            CHECK.no("four without LINE " + line, House.STAR.without(line).isKaleidoscope());
        }
        CHECK.yes("two of the four, across", House.STAR.without(0, 1).isKaleidoscope());
        CHECK.yes("the other two, across", House.STAR.without(2, 3).isKaleidoscope());
        CHECK.no("two of them that slant", House.STAR.without(1, 2).isKaleidoscope());
        CHECK.no("the first LINE alone is reflected into none", House.of(1, 1, 0, 1, 0, 0, 0, 1, 0).isKaleidoscope());
        CHECK.no("the last LINE alone is reflected into none", House.of(1, 0, 0, 0, 1, 0, 1, 1, 0).isKaleidoscope());
        Chamberwright x = House.PAST_STAR.anew();
        x.takeAway(4);
        CHECK.yes("when the one past them is taken away", x.isKaleidoscope());
    }

    // ---- promises 20 and 21

    private static String pairs(Chamberwright x) {
        int[] pairs = new int[x.pairs()];
        for (int place = 0; place < pairs.length; place++) {
            pairs[place] = x.pair(place);
        }
        return Check.row(pairs);
    }

    private static void pairsHaveAMeet() {
        int[] due = {0, 0, 0, 1, 3, 4, 3, 7, 36, 36, 0, 8, 15, 0};
        for (House house : House.values()) {
            CHECK.same("pairs() of " + house, house.anew().pairs(), due[house.ordinal()]);
        }
        CHECK.same("two by two", pairs(House.WINDOW.anew()), "5 9 6 10");
    }

    private static void oneIsTheLowestThroughIt() {
        CHECK.same("four through one", pairs(House.STAR.anew()), "3 5 9");
        CHECK.same("nine through one", pairs(House.PENCIL.anew()), "3 5 9 17 33 65 129 257");
        CHECK.same("without the lowest", pairs(House.STAR.without(0)), "3 5");
        CHECK.same("four through one, and one past it", pairs(House.PAST_STAR.anew()), "3 5 9 17 18 20 24");
        CHECK.same("the one past comes first", pairs(House.of(2, 1, -7, 1, 0, 1, 0, 1, 1, 1, 1, 2, 1, -1, 0)),
                "3 5 9 17 6 10 18");
    }

    private static void pairsAreNumberedByTheLowerLine() {
        StringBuilder due = new StringBuilder();
        for (int low = 0; low < 9; low++) {
            for (int high = low + 1; high < 9; high++) {
                due.append(due.length() > 0 ? " " : "").append(1 << low | 1 << high);
            }
        }
        CHECK.same("all 36 of nine", pairs(House.FULL.anew()), due.toString());
        CHECK.same("and of nine others", pairs(House.NINE_WALLS.anew()), due.toString());
        CHECK.same("not by the MEETS", pairs(House.of(1, 0, 9, 0, 1, 9, 1, 1, -9)), "3 5 6");
    }

    private static void noneIfNotSoManyPairs() {
        for (House house : House.values()) {
            int pairs = house.anew().pairs();
            for (int place : new int[] {pairs, pairs + 1, 36, GREATEST}) {
                CHECK.same("pair(" + place + ") of " + house, house.anew().pair(place), NONE);
            }
            if (pairs > 0) {
                CHECK.yes("the last pair of " + house, house.anew().pair(pairs - 1) > 2);
            }
        }
        CHECK.same("the last of 36", House.FULL.anew().pair(35), 384);
    }

    private static void placeBelowZero() {
        for (House house : House.values()) {
            for (int place : new int[] {-1, -2, LEAST}) {
                CHECK.refused(house, "pair(" + place + ") of " + house, NO_SUCH, x -> x.pair(place));
            }
        }
    }
}
