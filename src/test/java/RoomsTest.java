/** Promises 9 to 17: ROOMS, which are BOUNDED, walls, corners, galleries, projections, the best corner. */
public final class RoomsTest {
    private static final Check CHECK = new Check("RoomsTest");
    private static final Class<IndexOutOfBoundsException> NO_SUCH = IndexOutOfBoundsException.class;
    private static final Class<IllegalArgumentException> WRONG = IllegalArgumentException.class;

    private RoomsTest() {
    }

    public static void main(String[] args) {
        roomsOfFewLines();
        boundedOnes();
        toldTheOtherWay();
        roomsAreRefused();
        setsOfRooms();
        corners();
        galleriesAreCounted();
        galleriesAreWalked();
        galleriesAreRefused();
        projections();
        bestCorners();
        bestIsRefused();
        CHECK.endsWell();
    }

    private static Chamberwright house(int[]... tellings) {
        Chamberwright x = new Chamberwright();
        for (int[] telling : tellings) {
            x.line(telling[0], telling[1], telling[2]);
        }
        return x;
    }

    private static int[] t(int a, int b, int c) {
        return new int[] {a, b, c};
    }

    /** x = 0, y = 0, x + y = 2: seven ROOMS, 0 to 7 without the set 4. */
    private static Chamberwright triangle() {
        return house(t(1, 0, 0), t(0, 1, 0), t(1, 1, 2));
    }

    /** x = 0, x = 3, y = 0, y = 2: nine ROOMS, the middle one is 5 0101. */
    private static Chamberwright window() {
        return house(t(1, 0, 0), t(1, 0, 3), t(0, 1, 0), t(0, 1, 2));
    }

    private static String told(Chamberwright x, int what) {
        int[] answers = new int[x.rooms()];
        for (int room = 0; room < answers.length; room++) {
            answers[room] = x.room(room, what);
        }
        return Check.row(answers);
    }

    private static void roomsOfFewLines() {
        CHECK.same("no LINE", told(new Chamberwright(), 0) + "|" + told(new Chamberwright(), 1) + "|"
                + told(new Chamberwright(), 2) + "|" + told(new Chamberwright(), 3), "0|0|0|0");
        Chamberwright one = house(t(-3, 4, 5));
        CHECK.same("one LINE", told(one, 0) + "|" + told(one, 1) + "|" + told(one, 2) + "|" + told(one, 3),
                "0 1|0 0|1 1|0 0");
        Chamberwright beside = house(t(1, 1, 0), t(1, 1, 2), t(2, 2, 2));
        CHECK.same("three beside one another", told(beside, 0), "0 1 5 7");
        CHECK.same("none of them BOUNDED", told(beside, 1), "0 0 0 0");
        CHECK.same("their walls", told(beside, 2), "1 5 6 2");
        Chamberwright x = triangle();
        CHECK.same("rooms() of three", x.rooms(), 7);
        CHECK.same("sets of three", told(x, 0), "0 1 2 3 5 6 7");
        CHECK.same("BOUNDED of three", told(x, 1), "0 0 0 1 0 0 0");
        CHECK.same("walls of three", told(x, 2), "3 7 7 7 6 5 7");
        CHECK.same("corners of three", told(x, 3), "1 2 2 3 1 1 2");
    }

    private static void boundedOnes() {
        CHECK.same("bounded() of three", triangle().bounded(), 1);
        CHECK.same("bounded() of ROOM 0 alone", house(t(-1, 0, 0), t(0, -1, 0), t(1, 1, 2)).bounded(), 1);
        CHECK.same("bounded() of a window", window().bounded(), 1);
        CHECK.same("rooms() of a window", window().rooms(), 9);
        CHECK.same("BOUNDED of a window", told(window(), 1), "0 0 0 0 1 0 0 0 0");
        CHECK.same("bounded() of two beside, one across",
                house(t(1, 0, 0), t(1, 0, 3), t(0, 1, 0)).bounded(), 0);
        Chamberwright nine = house(t(1, 0, -9), t(0, 1, -3), t(1, 1, 8), t(1, -1, 8), t(2, 1, -2), t(1, 2, 3),
                t(3, -1, 7), t(1, -3, 2), t(5, 7, 9));
        CHECK.same("nine that cross in pairs", Check.row(nine.meets(), nine.rooms(), nine.bounded()), "36 46 28");
    }

    private static void toldTheOtherWay() {
        CHECK.same("above goes by the telling",
                told(house(t(-1, 0, 0), t(0, 1, 0), t(1, 1, 2)), 0), "0 1 2 3 4 6 7");
        CHECK.same("a LINE told with less", house(t(1, 0, 1), t(-1, 0, 1)).roomOf(3), -1);
        CHECK.same("a LINE told with more", house(t(1, 0, 1), t(-1, 0, 1)).roomOf(0), 0);
        CHECK.same("c counts", told(house(t(2, 0, 3), t(1, 0, 1)), 0), "0 2 3");
    }

    private static void roomsAreRefused() {
        CHECK.refused(RoomsTest::triangle, "room(7, 0)", NO_SUCH, y -> y.room(7, 0));
        CHECK.refused(RoomsTest::triangle, "room(-1, 0)", NO_SUCH, y -> y.room(-1, 0));
        CHECK.refused(RoomsTest::triangle, "room(7, 4)", NO_SUCH, y -> y.room(7, 4));
        CHECK.refused(RoomsTest::triangle, "room(MIN, -1)", NO_SUCH, y -> y.room(Integer.MIN_VALUE, -1));
        CHECK.refused(RoomsTest::triangle, "room(0, 4)", WRONG, y -> y.room(0, 4));
        CHECK.refused(RoomsTest::triangle, "room(0, -1)", WRONG, y -> y.room(0, -1));
        CHECK.refused(RoomsTest::triangle, "room(6, MAX)", WRONG, y -> y.room(6, Integer.MAX_VALUE));
    }

    private static void setsOfRooms() {
        Chamberwright x = triangle();
        int[] answers = new int[8];
        for (int set = 0; set < 8; set++) {
            answers[set] = x.roomOf(set);
        }
        CHECK.same("roomOf(0) to roomOf(7)", Check.row(answers), "0 1 2 3 -1 4 5 6");
        CHECK.same("roomOf(8)", x.roomOf(8), -1);
        CHECK.same("roomOf(511)", x.roomOf(511), -1);
        CHECK.refused(RoomsTest::triangle, "roomOf(512)", WRONG, y -> y.roomOf(512));
        CHECK.refused(RoomsTest::triangle, "roomOf(-1)", WRONG, y -> y.roomOf(-1));
        CHECK.refused(RoomsTest::triangle, "roomOf(MAX)", WRONG, y -> y.roomOf(Integer.MAX_VALUE));
        CHECK.refused(RoomsTest::triangle, "roomOf(MIN)", WRONG, y -> y.roomOf(Integer.MIN_VALUE));
        x.takeAway(2);
        CHECK.same("roomOf(7) without the third", x.roomOf(7), -1);
        CHECK.same("roomOf(3) without the third", x.roomOf(3), 3);
    }

    private static String cornersOf(Chamberwright x, int room) {
        int[] answers = new int[x.room(room, 3) + 2];
        for (int place = 0; place < answers.length; place++) {
            answers[place] = x.corner(room, place);
        }
        return Check.row(answers);
    }

    private static void corners() {
        Chamberwright x = triangle();
        CHECK.same("corners of the BOUNDED one", cornersOf(x, 3), "0 1 2 -1 -1");
        CHECK.same("corners of ROOM 0", cornersOf(x, 0), "0 -1 -1");
        CHECK.same("corners of ROOM 1", cornersOf(x, 1), "0 2 -1 -1");
        CHECK.same("corners of the last ROOM", cornersOf(x, 6), "1 2 -1 -1");
        CHECK.same("corner(3, MAX)", x.corner(3, Integer.MAX_VALUE), -1);
        CHECK.same("a ROOM without corners", new Chamberwright().corner(0, 0), -1);
        Chamberwright star = house(t(1, 0, 0), t(0, 1, 0), t(1, 1, 0), t(1, -1, 0));
        CHECK.same("a MEET of four is one corner", told(star, 3), "1 1 1 1 1 1 1 1");
        CHECK.refused(RoomsTest::triangle, "corner(3, -1)", NO_SUCH, y -> y.corner(3, -1));
        CHECK.refused(RoomsTest::triangle, "corner(7, 0)", NO_SUCH, y -> y.corner(7, 0));
        CHECK.refused(RoomsTest::triangle, "corner(-1, 0)", NO_SUCH, y -> y.corner(-1, 0));
        CHECK.refused(RoomsTest::triangle, "corner(0, MIN)", NO_SUCH, y -> y.corner(0, Integer.MIN_VALUE));
    }

    private static void galleriesAreCounted() {
        Chamberwright x = triangle();
        CHECK.same("galleries to itself", x.galleries(4, 4), 1);
        CHECK.same("galleries over one LINE", x.galleries(0, 1), 1);
        CHECK.same("galleries over two LINES", x.galleries(0, 3), 2);
        CHECK.same("galleries over three LINES", x.galleries(0, 6), 4);
        CHECK.same("and back", x.galleries(6, 0), 4);
        CHECK.same("galleries over three LINES, the other way round", x.galleries(1, 5), 4);
        CHECK.same("galleries past a set that is no ROOM", x.galleries(4, 5), 1);
        CHECK.same("galleries across a window", window().galleries(0, 8), 6);
        Chamberwright star = house(t(1, 0, 0), t(0, 1, 0), t(1, 1, 0), t(1, -1, 0));
        CHECK.same("galleries around a MEET", star.galleries(0, 7), 2);
        CHECK.same("galleries to itself without LINES", new Chamberwright().galleries(0, 0), 1);
    }

    private static String walk(Chamberwright x, int room, int other) {
        int[] answers = new int[11];
        for (int step = 0; step < answers.length; step++) {
            answers[step] = x.gallery(room, other, step);
        }
        return Check.row(answers);
    }

    private static void galleriesAreWalked() {
        Chamberwright x = triangle();
        CHECK.same("the first gallery 0 to 6", walk(x, 0, 6), "0 1 3 6 -1 -1 -1 -1 -1 -1 -1");
        CHECK.same("the first gallery 6 to 0", walk(x, 6, 0), "6 5 2 0 -1 -1 -1 -1 -1 -1 -1");
        CHECK.same("to itself", walk(x, 2, 2), "2 -1 -1 -1 -1 -1 -1 -1 -1 -1 -1");
        CHECK.same("4 to 2", walk(x, 4, 2), "4 6 5 2 -1 -1 -1 -1 -1 -1 -1");
        CHECK.same("step MAX", x.gallery(0, 6, Integer.MAX_VALUE), -1);
        Chamberwright beside = new Chamberwright();
        for (int c = 8; c >= 0; c--) {
            beside.line(1, 0, c);
        }
        CHECK.same("over nine LINES, the lowest last", walk(beside, 0, 9), "0 1 2 3 4 5 6 7 8 9 -1");
        CHECK.same("over nine LINES, the lowest first", walk(beside, 9, 0), "9 8 7 6 5 4 3 2 1 0 -1");
    }

    private static void galleriesAreRefused() {
        CHECK.refused(RoomsTest::triangle, "galleries(0, 7)", NO_SUCH, y -> y.galleries(0, 7));
        CHECK.refused(RoomsTest::triangle, "galleries(7, 0)", NO_SUCH, y -> y.galleries(7, 0));
        CHECK.refused(RoomsTest::triangle, "galleries(-1, 0)", NO_SUCH, y -> y.galleries(-1, 0));
        CHECK.refused(RoomsTest::triangle, "galleries(0, -1)", NO_SUCH, y -> y.galleries(0, -1));
        CHECK.refused(RoomsTest::triangle, "galleries(7, 7)", NO_SUCH, y -> y.galleries(7, 7));
        CHECK.refused(RoomsTest::triangle, "gallery(0, 7, 0)", NO_SUCH, y -> y.gallery(0, 7, 0));
        CHECK.refused(RoomsTest::triangle, "gallery(7, 0, 0)", NO_SUCH, y -> y.gallery(7, 0, 0));
        CHECK.refused(RoomsTest::triangle, "gallery(0, -1, 0)", NO_SUCH, y -> y.gallery(0, -1, 0));
        CHECK.refused(RoomsTest::triangle, "gallery(-1, 0, 0)", NO_SUCH, y -> y.gallery(-1, 0, 0));
        CHECK.refused(RoomsTest::triangle, "gallery(0, 1, -1)", NO_SUCH, y -> y.gallery(0, 1, -1));
        CHECK.refused(RoomsTest::triangle, "gallery(0, 1, MIN)", NO_SUCH, y -> y.gallery(0, 1, Integer.MIN_VALUE));
    }

    private static void projections() {
        Chamberwright x = triangle();
        int[] answers = new int[7];
        for (int meet = 0; meet < 3; meet++) {
            for (int room = 0; room < 7; room++) {
                answers[room] = x.project(room, meet);
            }
            String[] due = {"0 1 2 3 1 2 3", "2 3 2 3 6 5 6", "1 1 3 3 4 6 6"};
            CHECK.same("projections on MEET " + meet, Check.row(answers), due[meet]);
        }
        CHECK.refused(RoomsTest::triangle, "project(7, 0)", NO_SUCH, y -> y.project(7, 0));
        CHECK.refused(RoomsTest::triangle, "project(-1, 0)", NO_SUCH, y -> y.project(-1, 0));
        CHECK.refused(RoomsTest::triangle, "project(0, 3)", NO_SUCH, y -> y.project(0, 3));
        CHECK.refused(RoomsTest::triangle, "project(0, -1)", NO_SUCH, y -> y.project(0, -1));
        CHECK.refused(Chamberwright::new, "project(0, 0) without MEETS", NO_SUCH, y -> y.project(0, 0));
    }

    private static void bestCorners() {
        Chamberwright x = triangle();
        CHECK.same("best to the right", x.best(3, 1, 0), 2);
        CHECK.same("best along a wall: the lowest MEET", x.best(3, 9, 9), 1);
        CHECK.same("best below", x.best(3, -9, -9), 0);
        CHECK.same("best below along a wall", x.best(3, 0, -1), 0);
        CHECK.same("no bound", x.best(0, -1, 0), -1);
        CHECK.same("no bound of a ROOM with three walls", x.best(6, 1, 2), -1);
        CHECK.same("a bound of a ROOM that is not BOUNDED", x.best(6, -1, -1), 1);
        CHECK.same("a bound along an endless wall", x.best(0, 1, 0), 0);
        Chamberwright beside = house(t(1, 0, 0), t(1, 0, 2));
        CHECK.same("a bound without corners", beside.best(1, 1, 0), -1);
        CHECK.same("a bound of a half plane without corners", beside.best(0, 1, 0), -1);
        CHECK.same("no bound without corners", beside.best(1, 0, 1), -1);
        CHECK.same("no LINES", new Chamberwright().best(0, 1, 1), -1);
        Chamberwright w = window();
        int middle = w.roomOf(5);
        CHECK.same("best of a window", Check.row(w.best(middle, 1, 1), w.best(middle, 1, -1), w.best(middle, -1, 1),
                w.best(middle, -1, -1), w.best(middle, 1, 0), w.best(middle, 0, 1)), "3 2 1 0 2 1");
        Chamberwright wedges = house(t(1, -2, 0), t(2, -1, 0));
        CHECK.same("bounds of a narrow ROOM", Check.row(wedges.best(2, 1, -2), wedges.best(2, 1, -3),
                wedges.best(2, -2, 1), wedges.best(2, -9, -9)), "0 0 0 0");
        CHECK.same("none of a narrow ROOM", Check.row(wedges.best(2, 2, -1), wedges.best(2, -1, 2),
                wedges.best(2, -3, 2), wedges.best(2, 2, -3), wedges.best(2, 1, 1)), "-1 -1 -1 -1 -1");
        CHECK.same("bounds of a wide ROOM",
                Check.row(wedges.best(0, 2, -1), wedges.best(0, 1, -2), wedges.best(0, 1, -1)), "0 0 0");
        CHECK.same("none of a wide ROOM",
                Check.row(wedges.best(0, -2, 1), wedges.best(0, 1, -3), wedges.best(0, 3, -1)), "-1 -1 -1");
        Chamberwright parts = house(t(0, 1, 0), t(2, 1, 3), t(3, 1, 4));
        int small = parts.roomOf(5);
        CHECK.same("its corners are 1, 4 / 3 and 3 / 2 to the right",
                Check.row(parts.best(small, 1, 0), parts.best(small, -1, 0), parts.best(small, 9, 1)), "2 0 2");
        CHECK.same("goals along its walls", Check.row(parts.best(small, 0, -1), parts.best(small, -3, -1),
                parts.best(small, 2, 1), parts.best(small, -2, -1)), "1 0 0 1");
    }

    private static void bestIsRefused() {
        CHECK.refused(RoomsTest::triangle, "best(7, 1, 0)", NO_SUCH, y -> y.best(7, 1, 0));
        CHECK.refused(RoomsTest::triangle, "best(-1, 0, 0)", NO_SUCH, y -> y.best(-1, 0, 0));
        CHECK.refused(RoomsTest::triangle, "best(7, 10, 0)", NO_SUCH, y -> y.best(7, 10, 0));
        CHECK.refused(RoomsTest::triangle, "best(3, 0, 0)", WRONG, y -> y.best(3, 0, 0));
        int[] outside = {10, -10, Integer.MAX_VALUE, Integer.MIN_VALUE};
        for (int far : outside) {
            CHECK.refused(RoomsTest::triangle, "best(3, " + far + ", 1)", WRONG, y -> y.best(3, far, 1));
            CHECK.refused(RoomsTest::triangle, "best(3, 1, " + far + ")", WRONG, y -> y.best(3, 1, far));
        }
    }
}
