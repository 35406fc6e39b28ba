import java.util.ArrayList;
import java.util.HashSet;
import java.util.List;
import java.util.Set;

/** Promises 9 to 17: one test for each sentence that tells of a border, in the order of the document. */
public final class RoomBordersTest {
    private static final Check CHECK = new Check("RoomBordersTest");
    private static final Class<IndexOutOfBoundsException> NO_SUCH = IndexOutOfBoundsException.class;
    private static final Class<IllegalArgumentException> WRONG = IllegalArgumentException.class;
    private static final int NONE = -1;
    private static final int GREATEST = Integer.MAX_VALUE;
    private static final int LEAST = Integer.MIN_VALUE;

    private RoomBordersTest() {
    }

    public static void main(String[] args) {
        CHECK.sentence("9 to 12: Without LINES there is one, 0", RoomBordersTest::withoutLinesThereIsOne);
        CHECK.sentence("9: A ROOM is a set for which there is a point above each LINE of it, and below all others",
                RoomBordersTest::aRoomIsASetWithPoints);
        CHECK.sentence("9: and no other set is one", RoomBordersTest::noOtherSetIsARoom);
        CHECK.sentence("9: ROOMS are numbered from 0 by their sets as numbers, lower ones first",
                RoomBordersTest::roomsAreNumberedByTheirSets);
        CHECK.sentence("10: A ROOM is BOUNDED, if all its points are in some circle",
                RoomBordersTest::boundedIfInSomeCircle);
        CHECK.sentence("11: 1 whether it is BOUNDED, 1 or 0", RoomBordersTest::boundedIsOneOrZero);
        CHECK.sentence("11: A LINE is a wall, if there is a ROOM that is unlike it in that LINE alone",
                RoomBordersTest::wallsAreUnlikeInOneLine);
        CHECK.sentence("11: Throws IndexOutOfBoundsException if there is no such ROOM", RoomBordersTest::noSuchRoom);
        CHECK.sentence("11: Throws IllegalArgumentException if what is out of range",
                RoomBordersTest::whatOfARoomIsOutOfRange);
        CHECK.sentence("11: of room's exceptions the one named first", RoomBordersTest::noSuchRoomIsNamedFirst);
        CHECK.sentence("12: set, 0 to 511", RoomBordersTest::setsFromTheLeastToTheGreatest);
        CHECK.sentence("12: NONE if there is none", RoomBordersTest::noneIfNoRoomHasTheSet);
        CHECK.sentence("12: Throws IllegalArgumentException if set is out of range", RoomBordersTest::setsOutOfRange);
        CHECK.sentence("13: A MEET is a corner, if it is below no LINE of its set, and above no other one",
                RoomBordersTest::cornersAreBelowNoneAndAboveNoOther);
        CHECK.sentence("13: NONE if it has not so many corners", RoomBordersTest::noneIfNotSoManyCorners);
        CHECK.sentence("13: Throws IndexOutOfBoundsException if there is no such ROOM, or place is below 0",
                RoomBordersTest::noSuchRoomOrPlace);
        CHECK.sentence("14: 1 to itself", RoomBordersTest::oneGalleryToItself);
        CHECK.sentence("14: A gallery is a row of ROOMS, each unlike the one ahead in one LINE, as short as can be",
                RoomBordersTest::howManyGalleries);
        CHECK.sentence("14: Throws IndexOutOfBoundsException if there is no such ROOM, of either",
                RoomBordersTest::noSuchRoomOfEither);
        CHECK.sentence("15: 0 for the ROOM itself", RoomBordersTest::stepZeroIsTheRoomItself);
        CHECK.sentence("15: NONE if it has not so many", RoomBordersTest::noneIfNotSoManySteps);
        CHECK.sentence("15: The first gallery crosses the lowest LINE first, then the lowest then, and so on",
                RoomBordersTest::theLowestLineFirst);
        CHECK.sentence("15: Throws IndexOutOfBoundsException if there is no such ROOM, of either, or step is below 0",
                RoomBordersTest::noSuchRoomOrStep);
        CHECK.sentence("16: those LINES through the MEET above which the ROOM is, and those above which the MEET is",
                RoomBordersTest::projectionsByTheWords);
        CHECK.sentence("16: Throws IndexOutOfBoundsException if there is no such ROOM or MEET",
                RoomBordersTest::noSuchRoomOrMeet);
        CHECK.sentence("17: gx and gy, -9 to 9", RoomBordersTest::everyGoalInRange);
        CHECK.sentence("17: NONE if they have no bound at the points of the ROOM", RoomBordersTest::noneIfNoBound);
        CHECK.sentence("17: NONE if it has no corner, also with a bound",
                RoomBordersTest::noneIfNoCornerAlsoWithABound);
        CHECK.sentence("17: of several the lowest MEET", RoomBordersTest::ofSeveralTheLowest);
        CHECK.sentence("17: Throws IndexOutOfBoundsException if there is no such ROOM",
                RoomBordersTest::noSuchRoomForAGoal);
        CHECK.sentence("17: Throws IllegalArgumentException if gx or gy is out of range",
                RoomBordersTest::goalsOutOfRange);
        CHECK.sentence("17: Throws IllegalArgumentException if both are 0", RoomBordersTest::bothGoalsZero);
        CHECK.sentence("17: of best's exceptions the one named first",
                RoomBordersTest::noSuchRoomIsNamedAheadOfTheGoal);
        CHECK.endsWell();
    }

    private static boolean isIn(int set, int line) {
        return (set >> line & 1) == 1;
    }

    private static int bound(boolean yes) {
        return yes ? 1 : 0;
    }

    /** The ROOMS that there are not, beside those that there are and far from them. */
    private static int[] noRooms(House house) {
        return new int[] {-1, house.rooms, house.rooms + 1, 46, 512, LEAST, GREATEST};
    }

    // ---- promises 9 and 10

    private static void withoutLinesThereIsOne() {
        for (House house : new House[] {House.NEW, House.EMPTIED}) {
            Chamberwright x = house.anew();
            CHECK.same("rooms() of " + house, x.rooms(), 1);
            CHECK.same("bounded() of " + house, x.bounded(), 0);
            CHECK.same("its set", x.room(0, 0), 0);
            CHECK.same("whether it is BOUNDED", x.room(0, 1), 0);
            CHECK.same("its walls", x.room(0, 2), 0);
            CHECK.same("its corners", x.room(0, 3), 0);
            CHECK.same("roomOf(0)", x.roomOf(0), 0);
            for (int set = 1; set < 360; set++) {
                CHECK.same("roomOf(" + set + ")", x.roomOf(set), NONE);
            }
        }
        Chamberwright x = new Chamberwright();
        for (int set = 360; set < 512; set++) {
            CHECK.same("roomOf(" + set + ")", x.roomOf(set), NONE);
        }
    }

    private static void aRoomIsASetWithPoints() {
        for (House house : House.values()) {
            CHECK.same("rooms() of " + house, house.anew().rooms(), house.rooms);
            Stock stock = new Stock(house);
            for (int at = 0; at < 81 * 81; at++) {
                // Sevenths, so that many of the points are on no LINE.
                int set = setBelow(house, at / 81 - 40, at % 81 - 40, 7);
                if (set != NONE && at % 3 == 0) {
                    CHECK.yes("a ROOM of " + house + " with the set " + set, stock.x().roomOf(set) != NONE);
                }
            }
        }
    }

    /** Three of the LINES cross one step from where the fourth one crosses the first. */
    private static void noOtherSetIsARoom() {
        for (int way = -1; way <= 1; way += 2) {
            for (int other = -1; other <= 1; other += 2) {
                for (int line = 0; line < 4; line++) {
                    int[] told = {way, 0, 0, 0, 1, 0, 1, -1, -other, 1, 1, other};
                    told[3 * line] *= -1;
                    told[3 * line + 1] *= -1;
                    told[3 * line + 2] *= -1;
                    String what = " of " + Check.row(told);
                    CHECK.same("upright: rooms()" + what, House.of(told).rooms(), 10);
                    int[] level = {0, way, 0, 1, 0, 0, told[7], told[6], told[8], told[10], told[9], told[11]};
                    CHECK.same("level: rooms()" + what, House.of(level).rooms(), 10);
                }
            }
        }
        for (House house : House.values()) {
            CHECK.same("all ROOMS of " + house, Check.row(house.sets()), roomsOf(house.model()));
        }
    }

    private static String roomsOf(Model model) {
        int[] sets = new int[model.rooms()];
        for (int room = 0; room < sets.length; room++) {
            sets[room] = model.room(room, 0);
        }
        return Check.row(sets);
    }

    /** The set of the LINES below that point, NONE if it is on a LINE. */
    private static int setBelow(House house, int x, int y, int d) {
        int set = 0;
        for (int line = 0; line < house.lines(); line++) {
            int height = house.height(line, new int[] {x, y, d});
            if (height == 0) {
                return NONE;
            }
            set |= height > 0 ? 1 << line : 0;
        }
        return set;
    }

    private static void roomsAreNumberedByTheirSets() {
        for (House house : House.values()) {
            int[] sets = house.sets();
            CHECK.yes("the first set of " + house, sets[0] >= 0);
            for (int room = 1; room < sets.length; room++) {
                CHECK.yes("ROOM " + room + " of " + house, sets[room] > sets[room - 1]);
            }
        }
        CHECK.same("nine beside one another", Check.row(House.BESIDE.sets()), "0 256 384 448 480 496 504 508 510 511");
        CHECK.same("two across, one told the other way round", Check.row(House.ACROSS.sets()), "0 1 2 3");
        CHECK.same("a strip told the other way round", Check.row(House.STRIP.sets()), "1 2 3");
    }

    private static void boundedIfInSomeCircle() {
        for (House house : House.values()) {
            CHECK.same("bounded() of " + house, house.anew().bounded(), house.bounded);
        }
        CHECK.same("a narrow ROOM without an end", House.of(9, -8, 0, 8, -7, 0, 1, 1, 0).bounded(), 0);
        CHECK.same("a narrow ROOM with an end", House.of(9, -8, 0, 8, -7, 0, 1, 1, 9).bounded(), 1);
        CHECK.same("a strip with one end", House.of(1, 0, 0, 1, 0, 1, 0, 1, 0).bounded(), 0);
        CHECK.same("a strip with two ends", House.of(1, 0, 0, 1, 0, 1, 0, 1, 0, 0, 1, 9).bounded(), 1);
    }

    private static void boundedIsOneOrZero() {
        for (House house : House.values()) {
            Chamberwright x = house.anew();
            int ones = 0;
            for (int room = 0; room < house.rooms; room++) {
                int is = x.room(room, 1);
                CHECK.yes("1 or 0 of " + house, is == 0 || is == 1);
                ones += is;
            }
            CHECK.same("the BOUNDED ones of " + house, ones, house.bounded);
        }
        CHECK.same("of the triangle", Check.row(House.TRIANGLE.anew().room(3, 1), House.TRIANGLE.anew().room(2, 1)),
                "1 0");
        CHECK.same("of the window", Check.row(House.WINDOW.anew().room(4, 1), House.WINDOW.anew().room(3, 1)), "1 0");
    }

    // ---- promise 11

    private static void wallsAreUnlikeInOneLine() {
        for (House house : House.values()) {
            Chamberwright x = house.anew();
            Set<Integer> rooms = setsOf(house);
            for (int room = 0; room < house.rooms; room++) {
                int walls = 0;
                for (int line = 0; line < 9; line++) {
                    walls |= rooms.contains(x.room(room, 0) ^ 1 << line) ? 1 << line : 0;
                }
                CHECK.same("walls of ROOM " + room + " of " + house, x.room(room, 2), walls);
            }
        }
        CHECK.same("of one LINE", Check.row(House.ONE.anew().room(0, 2), House.ONE.anew().room(1, 2)), "1 1");
        CHECK.same("all nine", House.NINE_WALLS.anew().room(11, 2), 511);
        CHECK.same("the last beside one another", House.BESIDE.anew().room(9, 2), 1);
    }

    private static Set<Integer> setsOf(House house) {
        Set<Integer> sets = new HashSet<>();
        for (int set : house.sets()) {
            sets.add(set);
        }
        return sets;
    }

    private static void noSuchRoom() {
        for (House house : House.values()) {
            for (int room : noRooms(house)) {
                CHECK.refused(house, "room(" + room + ", 0) of " + house, NO_SUCH, x -> x.room(room, 0));
                CHECK.refused(house, "room(" + room + ", 3) of " + house, NO_SUCH, x -> x.room(room, 3));
            }
            int last = house.rooms - 1;
            CHECK.same("the last ROOM of " + house, house.anew().roomOf(house.anew().room(last, 0)), last);
        }
    }

    private static void whatOfARoomIsOutOfRange() {
        for (House house : House.values()) {
            for (int what : new int[] {-1, 4, LEAST, GREATEST}) {
                CHECK.refused(house, "room(0, " + what + ") of " + house, WRONG, x -> x.room(0, what));
                CHECK.refused(house, "room(last, " + what + ") of " + house, WRONG, x -> x.room(house.rooms - 1, what));
            }
        }
        Chamberwright x = House.NINE_WALLS.anew();
        CHECK.same("0 to 3", Check.row(x.room(11, 0), x.room(11, 1), x.room(11, 2), x.room(11, 3)), "23 1 511 9");
    }

    private static void noSuchRoomIsNamedFirst() {
        for (House house : House.values()) {
            CHECK.refused(house, "room(count, 4) of " + house, NO_SUCH, x -> x.room(house.rooms, 4));
            CHECK.refused(house, "room(-1, -1) of " + house, NO_SUCH, x -> x.room(-1, -1));
        }
    }

    // ---- promise 12

    private static void setsFromTheLeastToTheGreatest() {
        CHECK.same("roomOf(0), the first of ten", House.BESIDE.anew().roomOf(0), 0);
        CHECK.same("roomOf(511), the last of ten", House.BESIDE.anew().roomOf(511), 9);
        for (House house : House.values()) {
            Stock stock = new Stock(house);
            int[] sets = house.sets();
            int room = 0;
            for (int set = 0; set < 512; set++) {
                boolean is = room < sets.length && sets[room] == set;
                CHECK.same("roomOf(" + set + ") of " + house, stock.x().roomOf(set), is ? room : NONE);
                room += is ? 1 : 0;
            }
        }
    }

    private static void noneIfNoRoomHasTheSet() {
        CHECK.same("a set of LINES, all of them there", House.TRIANGLE.anew().roomOf(4), NONE);
        CHECK.same("a set with a LINE that is not there", House.TRIANGLE.anew().roomOf(8 + 3), NONE);
        CHECK.same("0 of a strip told the other way round", House.STRIP.anew().roomOf(0), NONE);
        CHECK.same("511 without LINES", new Chamberwright().roomOf(511), NONE);
        CHECK.same("511 of three", House.TRIANGLE.anew().roomOf(511), NONE);
        Chamberwright x = House.BESIDE.anew();
        x.takeAway(8);
        CHECK.same("511 when one of nine is taken away", x.roomOf(511), NONE);
        CHECK.same("255 then", x.roomOf(255), 8);
    }

    private static void setsOutOfRange() {
        for (House house : House.values()) {
            for (int set : new int[] {-1, 512, 513, 1024, LEAST, GREATEST}) {
                CHECK.refused(house, "roomOf(" + set + ") of " + house, WRONG, x -> x.roomOf(set));
            }
        }
    }

    // ---- promise 13

    private static void cornersAreBelowNoneAndAboveNoOther() {
        for (House house : House.values()) {
            Stock stock = new Stock(house);
            int[] sets = house.sets();
            int[][] points = house.points();
            for (int room = 0; room < sets.length; room++) {
                int place = 0;
                for (int meet = 0; meet < points.length; meet++) {
                    if (isCorner(house, sets[room], points[meet])) {
                        CHECK.same("corner(" + room + ", " + place + ") of " + house,
                                stock.x().corner(room, place), meet);
                        place++;
                    }
                }
                CHECK.same("corners of ROOM " + room + " of " + house, stock.x().room(room, 3), place);
            }
        }
        Chamberwright x = House.PENCIL.anew();
        CHECK.same("of nine through one, the first and the last", Check.row(x.corner(0, 0), x.corner(17, 0)), "0 0");
    }

    private static boolean isCorner(House house, int set, int[] point) {
        for (int line = 0; line < house.lines(); line++) {
            int height = house.height(line, point);
            if (isIn(set, line) ? height < 0 : height > 0) {
                return false;
            }
        }
        return true;
    }

    private static void noneIfNotSoManyCorners() {
        for (House house : House.values()) {
            Stock stock = new Stock(house);
            for (int room = 0; room < house.rooms; room++) {
                int count = stock.x().room(room, 3);
                for (int place : new int[] {count, count + 1, 36, GREATEST}) {
                    CHECK.same("corner(" + room + ", " + place + ") of " + house, stock.x().corner(room, place), NONE);
                }
                if (count > 0) {
                    CHECK.yes("the last corner of ROOM " + room + " of " + house,
                            stock.x().corner(room, count - 1) >= count - 1);
                }
            }
        }
        CHECK.yes("the ninth of nine", House.NINE_WALLS.anew().corner(11, 8) >= 8);
        CHECK.same("the tenth of nine", House.NINE_WALLS.anew().corner(11, 9), NONE);
    }

    private static void noSuchRoomOrPlace() {
        for (House house : House.values()) {
            for (int room : noRooms(house)) {
                CHECK.refused(house, "corner(" + room + ", 0) of " + house, NO_SUCH, x -> x.corner(room, 0));
                CHECK.refused(house, "corner(" + room + ", -1) of " + house, NO_SUCH, x -> x.corner(room, -1));
            }
            for (int place : new int[] {-1, -2, LEAST}) {
                CHECK.refused(house, "corner(0, " + place + ") of " + house, NO_SUCH, x -> x.corner(0, place));
            }
        }
    }

    // ---- promises 14 and 15

    private static void oneGalleryToItself() {
        for (House house : House.values()) {
            Chamberwright x = house.anew();
            for (int room = 0; room < house.rooms; room++) {
                CHECK.same("galleries(" + room + ", " + room + ") of " + house, x.galleries(room, room), 1);
            }
            int last = house.rooms - 1;
            x.galleries(0, last);
            CHECK.same("to itself, behind a far one of " + house, x.galleries(0, 0), 1);
            CHECK.same("and of the last", x.galleries(last, last), 1);
        }
    }

    private static void howManyGalleries() {
        for (House house : House.values()) {
            Stock stock = new Stock(house);
            int[] sets = house.sets();
            Set<Integer> rooms = setsOf(house);
            for (int room = 0; room < sets.length; room++) {
                for (int other = 0; other < sets.length; other += house.rooms > 30 ? 3 : 1) {
                    CHECK.same("galleries(" + room + ", " + other + ") of " + house,
                            stock.x().galleries(room, other), walks(rooms, sets[room], sets[other]));
                }
            }
        }
        CHECK.same("over nine beside one another", House.BESIDE.anew().galleries(0, 9), 1);
        CHECK.same("around one MEET of nine, from a ROOM to the one behind", House.PENCIL.anew().galleries(
                0, House.PENCIL.anew().roomOf(511 - House.PENCIL.anew().room(0, 0))), 2);
    }

    private static int walks(Set<Integer> rooms, int set, int goal) {
        if (set == goal) {
            return 1;
        }
        int sum = 0;
        for (int line = 0; line < 9; line++) {
            int next = set ^ 1 << line;
            if (isIn(set ^ goal, line) && rooms.contains(next)) {
                sum += walks(rooms, next, goal);
            }
        }
        return sum;
    }

    private static void noSuchRoomOfEither() {
        for (House house : House.values()) {
            for (int room : noRooms(house)) {
                CHECK.refused(house, "galleries(" + room + ", 0) of " + house, NO_SUCH, x -> x.galleries(room, 0));
                CHECK.refused(house, "galleries(0, " + room + ") of " + house, NO_SUCH, x -> x.galleries(0, room));
                CHECK.refused(house, "galleries(" + room + " to itself) of " + house, NO_SUCH,
                        x -> x.galleries(room, room));
            }
        }
    }

    private static void stepZeroIsTheRoomItself() {
        for (House house : House.values()) {
            Stock stock = new Stock(house);
            for (int room = 0; room < house.rooms; room++) {
                for (int other = 0; other < house.rooms; other++) {
                    CHECK.same("gallery(" + room + ", " + other + ", 0) of " + house,
                            stock.x().gallery(room, other, 0), room);
                }
            }
        }
    }

    private static void noneIfNotSoManySteps() {
        for (House house : House.values()) {
            Stock stock = new Stock(house);
            int[] sets = house.sets();
            for (int room = 0; room < sets.length; room++) {
                for (int other = 0; other < sets.length; other++) {
                    int last = Integer.bitCount(sets[room] ^ sets[other]);
                    String what = "gallery(" + room + ", " + other + ", ..) of " + house + " at ";
                    CHECK.same(what + "its end", stock.x().gallery(room, other, last), other);
                    CHECK.same(what + "one more", stock.x().gallery(room, other, last + 1), NONE);
                    CHECK.same(what + "the greatest", stock.x().gallery(room, other, GREATEST), NONE);
                }
            }
        }
        CHECK.same("to itself", new Chamberwright().gallery(0, 0, 1), NONE);
        CHECK.same("ten ROOMS", Check.row(House.BESIDE.anew().gallery(0, 9, 9), House.BESIDE.anew().gallery(0, 9, 10)),
                "9 -1");
    }

    private static void theLowestLineFirst() {
        for (House house : House.values()) {
            Stock stock = new Stock(house);
            int[] sets = house.sets();
            Set<Integer> rooms = setsOf(house);
            for (int room = 0; room < sets.length; room++) {
                for (int other = 0; other < sets.length; other++) {
                    List<Integer> walk = new ArrayList<>();
                    CHECK.yes("a gallery of " + house, isWalked(rooms, sets[room], sets[other], walk));
                    for (int step = 0; step < walk.size(); step++) {
                        int got = stock.x().gallery(room, other, step);
                        CHECK.same("gallery(" + room + ", " + other + ", " + step + ") of " + house,
                                got == NONE ? NONE : sets[got], walk.get(step));
                    }
                }
            }
        }
    }

    /** Tries the LINES between the two, the lowest one first, and goes back where that leads nowhere. */
    private static boolean isWalked(Set<Integer> rooms, int set, int goal, List<Integer> walk) {
        walk.add(set);
        if (set == goal) {
            return true;
        }
        for (int line = 0; line < 9; line++) {
            int next = set ^ 1 << line;
            if (isIn(set ^ goal, line) && rooms.contains(next) && isWalked(rooms, next, goal, walk)) {
                return true;
            }
        }
        walk.remove(walk.size() - 1);
        return false;
    }

    private static void noSuchRoomOrStep() {
        for (House house : House.values()) {
            for (int room : noRooms(house)) {
                CHECK.refused(house, "gallery(" + room + ", 0, 0) of " + house, NO_SUCH, x -> x.gallery(room, 0, 0));
                CHECK.refused(house, "gallery(0, " + room + ", 0) of " + house, NO_SUCH, x -> x.gallery(0, room, 0));
                CHECK.refused(house, "gallery(" + room + " to itself, 0) of " + house, NO_SUCH,
                        x -> x.gallery(room, room, 0));
                CHECK.refused(house, "gallery(" + room + " to itself, -1) of " + house, NO_SUCH,
                        x -> x.gallery(room, room, -1));
            }
            for (int step : new int[] {-1, -2, LEAST}) {
                CHECK.refused(house, "gallery(0, 0, " + step + ") of " + house, NO_SUCH, x -> x.gallery(0, 0, step));
                CHECK.refused(house, "gallery(0, last, " + step + ") of " + house, NO_SUCH,
                        x -> x.gallery(0, house.rooms - 1, step));
            }
        }
    }

    // ---- promise 16

    private static void projectionsByTheWords() {
        for (House house : House.values()) {
            Stock stock = new Stock(house);
            int[] sets = house.sets();
            int[][] points = house.points();
            for (int meet = 0; meet < points.length; meet++) {
                int through = 0;
                int above = 0;
                for (int line = 0; line < house.lines(); line++) {
                    int height = house.height(line, points[meet]);
                    through |= bound(height == 0) << line;
                    above |= bound(height > 0) << line;
                }
                for (int room = 0; room < sets.length; room++) {
                    int got = stock.x().project(room, meet);
                    CHECK.same("project(" + room + ", " + meet + ") of " + house,
                            got == NONE ? NONE : sets[got], sets[room] & through | above);
                }
            }
        }
        CHECK.same("on a corner: the ROOM itself", House.PENCIL.anew().project(17, 0), 17);
    }

    private static void noSuchRoomOrMeet() {
        for (House house : House.values()) {
            for (int room : noRooms(house)) {
                CHECK.refused(house, "project(" + room + ", 0) of " + house, NO_SUCH, x -> x.project(room, 0));
                CHECK.refused(house, "project(" + room + ", -1) of " + house, NO_SUCH, x -> x.project(room, -1));
            }
            for (int meet : new int[] {-1, house.meets, house.meets + 1, 36, LEAST, GREATEST}) {
                CHECK.refused(house, "project(0, " + meet + ") of " + house, NO_SUCH, x -> x.project(0, meet));
            }
        }
        CHECK.yes("the last ROOM on the last MEET", House.FULL.anew().project(45, 35) >= 0);
    }

    // ---- promise 17

    /** The middle of the window has the MEETS 0 to 3 as corners: below and above at the left, then at the right. */
    private static void everyGoalInRange() {
        Stock stock = new Stock(House.WINDOW);
        for (int gx = -9; gx <= 9; gx++) {
            for (int gy = -9; gy <= 9; gy++) {
                if (gx != 0 || gy != 0) {
                    CHECK.same("best(4, " + gx + ", " + gy + ")", stock.x().best(4, gx, gy),
                            2 * bound(gx > 0) + bound(gy > 0));
                }
            }
        }
    }

    private static void noneIfNoBound() {
        Chamberwright x = House.TRIANGLE.anew();
        CHECK.same("away from the corner", Check.row(x.best(0, -1, 0), x.best(0, 0, -1), x.best(0, -1, -1)),
                "-1 -1 -1");
        CHECK.same("a bound one way, none the other way", Check.row(x.best(0, 9, -1), x.best(0, -1, 9)), "-1 -1");
        CHECK.same("level along an endless wall", Check.row(x.best(0, 1, 0), x.best(0, 0, 1)), "0 0");
        CHECK.same("a bound both ways", x.best(0, 1, 1), 0);
        CHECK.same("the same of a ROOM with two corners", Check.row(x.best(6, 1, 1), x.best(6, -1, -1),
                x.best(6, -1, 0), x.best(6, 0, -1), x.best(6, -2, -1), x.best(6, -1, 1)), "-1 1 1 2 1 -1");
        Chamberwright narrow = House.of(9, -8, 0, 8, -7, 0);
        int room = narrow.roomOf(2);
        CHECK.same("a ROOM that goes on between 7 8 and 8 9, across", Check.row(narrow.best(room, 9, -8),
                narrow.best(room, -8, 7)), "0 0");
        CHECK.same("goals that nearly lie across", Check.row(narrow.best(room, 9, -7), narrow.best(room, -7, 7),
                narrow.best(room, 8, -7), narrow.best(room, -9, 8)), "-1 -1 -1 -1");
        int wide = narrow.roomOf(0);
        CHECK.same("a ROOM that goes on on one side of 7 8 and -8 -9, across", Check.row(narrow.best(wide, 9, -8),
                narrow.best(wide, 8, -7)), "0 0");
        CHECK.same("goals that nearly lie across it", Check.row(narrow.best(wide, 1, -1), narrow.best(wide, 9, -9),
                narrow.best(wide, 9, -7), narrow.best(wide, 7, -8)), "-1 -1 -1 -1");
    }

    private static void noneIfNoCornerAlsoWithABound() {
        Chamberwright strip = House.STRIP.anew();
        for (int room = 0; room < 3; room++) {
            for (int g = -1; g <= 1; g += 2) {
                CHECK.same("best(" + room + ", " + g + ", " + g + ") across a strip", strip.best(room, g, g), NONE);
                CHECK.same("best(" + room + ", " + g + ", " + -g + ") along a strip", strip.best(room, g, -g), NONE);
            }
        }
        Chamberwright one = House.ONE.anew();
        CHECK.same("of a half plane", Check.row(one.best(0, -3, 4), one.best(0, 3, -4), one.best(1, -3, 4),
                one.best(1, 3, -4), one.best(0, 4, 3), one.best(1, -4, -3)), "-1 -1 -1 -1 -1 -1");
        Chamberwright none = new Chamberwright();
        CHECK.same("without LINES", Check.row(none.best(0, 1, 0), none.best(0, -9, 9)), "-1 -1");
        Chamberwright beside = House.BESIDE.anew();
        for (int room = 0; room < 10; room++) {
            CHECK.same("best(" + room + ", 1, 0) of nine", beside.best(room, 1, 0), NONE);
            CHECK.same("best(" + room + ", -1, 0) of nine", beside.best(room, -1, 0), NONE);
        }
    }

    private static void ofSeveralTheLowest() {
        Chamberwright x = House.TRIANGLE.anew();
        CHECK.same("along x + y = 2", Check.row(x.best(3, 1, 1), x.best(3, 9, 9)), "1 1");
        CHECK.same("along x = 0", Check.row(x.best(3, -1, 0), x.best(3, -9, 0)), "0 0");
        CHECK.same("along y = 0", x.best(3, 0, -1), 0);
        CHECK.same("along the wall of a ROOM that goes on", x.best(6, -1, -1), 1);
        CHECK.same("with a D of 3 and one of 2", House.of(1, 0, 0, 0, 1, 0, 2, 3, 1).best(3, 2, 3), 1);
        CHECK.same("with a D of 2 and one of 3", House.of(1, 0, 0, 0, 1, 0, 3, 2, 1).best(3, 3, 2), 1);
        Chamberwright w = House.WINDOW.anew();
        CHECK.same("of a window", Check.row(w.best(4, 1, 0), w.best(4, -1, 0), w.best(4, 0, 1), w.best(4, 0, -1)),
                "2 0 1 0");
    }

    private static void noSuchRoomForAGoal() {
        for (House house : House.values()) {
            for (int room : noRooms(house)) {
                CHECK.refused(house, "best(" + room + ", 1, 0) of " + house, NO_SUCH, x -> x.best(room, 1, 0));
            }
        }
    }

    private static void goalsOutOfRange() {
        for (House house : House.values()) {
            for (int far : new int[] {-10, 10, LEAST, GREATEST}) {
                CHECK.refused(house, "best(0, " + far + ", 9) of " + house, WRONG, x -> x.best(0, far, 9));
                CHECK.refused(house, "best(0, -9, " + far + ") of " + house, WRONG, x -> x.best(0, -9, far));
                CHECK.refused(house, "best(0, " + far + ", 0) of " + house, WRONG, x -> x.best(0, far, 0));
                CHECK.refused(house, "best(0, 0, " + far + ") of " + house, WRONG, x -> x.best(0, 0, far));
            }
        }
    }

    private static void bothGoalsZero() {
        for (House house : House.values()) {
            for (int room = 0; room < house.rooms; room += 5) {
                int one = room;
                CHECK.refused(house, "best(" + room + ", 0, 0) of " + house, WRONG, x -> x.best(one, 0, 0));
            }
        }
    }

    private static void noSuchRoomIsNamedAheadOfTheGoal() {
        for (House house : House.values()) {
            CHECK.refused(house, "best(count, 0, 0) of " + house, NO_SUCH, x -> x.best(house.rooms, 0, 0));
            CHECK.refused(house, "best(-1, 10, 0) of " + house, NO_SUCH, x -> x.best(-1, 10, 0));
            CHECK.refused(house, "best(least, 1, least) of " + house, NO_SUCH, x -> x.best(LEAST, 1, LEAST));
        }
    }
}
