import java.util.ArrayList;
import java.util.List;

/** Houses at the borders of what there can be, each with the numbers that are due of it, counted by hand. */
enum House implements Check.Made {
    NEW(0, 1, 0),
    ONE(0, 2, 0, -3, 4, 5),
    /** x + y = -2, and x + y = 4 told the other way round. */
    STRIP(0, 3, 0, 1, 1, -2, -2, -2, -8),
    ACROSS(1, 4, 0, 2, 0, -2, 0, -3, 3),
    /** Its ROOMS are 0 to 7 without the set 4; the middle one is ROOM 3 with the set 3. */
    TRIANGLE(3, 7, 1, 1, 0, 0, 0, 1, 0, 1, 1, 2),
    /** x = 0, x = 3, y = 0, y = 2; the middle one has the set 5. */
    WINDOW(4, 9, 1, 1, 0, 0, 1, 0, 3, 0, 1, 0, 0, 1, 2),
    /** Four through 1 1, at half right angles. */
    STAR(1, 8, 0, 1, 0, 1, 0, 1, 1, 1, 1, 2, 1, -1, 0),
    /** Those four, and one past them. */
    PAST_STAR(5, 13, 3, 1, 0, 1, 0, 1, 1, 1, 1, 2, 1, -1, 0, 2, 1, -7),
    /** Nine of which any two have a MEET of their own. */
    FULL(36, 46, 28, 1, 0, -9, 0, 1, -3, 1, 1, 8, 1, -1, 8, 2, 1, -2, 1, 2, 3, 3, -1, 7, 1, -3, 2, 5, 7, 9),
    /** Nine such again, and all nine are walls of the ROOM 11, which has the set 23. */
    NINE_WALLS(36, 46, 28, -1, -5, -5, 3, -7, -8, 6, -3, -7, -9, -2, 9, 4, 7, -8, 0, -3, 3, 3, -4, 5, 3, 0, 3, 2, 2, 3),
    /** Nine without a MEET; the last one is told with all numbers doubled. */
    BESIDE(0, 10, 0, 1, 0, 8, 1, 0, 7, 1, 0, 6, 1, 0, 5, 1, 0, 4, 1, 0, 3, 1, 0, 2, 1, 0, 1, 2, 0, 0),
    /** Nine through 1 1. */
    PENCIL(1, 18, 0, 1, 0, 1, 0, 1, 1, 1, 1, 2, 1, -1, 0, 2, 1, 3, 1, 2, 3, 2, -1, 1, -1, 2, 1, 3, 1, 4),
    /** Eight through 1 1, and one across them all. */
    NEAR_PENCIL(9, 25, 7, 1, 0, 1, 0, 1, 1, 1, 1, 2, 1, -1, 0, 2, 1, 3, 1, 2, 3, 2, -1, 1, -1, 2, 1, 3, 1, -4),
    /** FULL with all EDGES, all taken away again. */
    EMPTIED(0, 1, 0);

    final int meets;
    final int rooms;
    final int bounded;
    private final int[] told;

    House(int meets, int rooms, int bounded, int... told) {
        this.meets = meets;
        this.rooms = rooms;
        this.bounded = bounded;
        this.told = told;
    }

    int lines() {
        return told.length / 3;
    }

    int[] telling(int line) {
        return new int[] {told[3 * line], told[3 * line + 1], told[3 * line + 2]};
    }

    /** Pairs of DOTS, told one behind the other. */
    int[] dots() {
        return switch (this) {
            case TRIANGLE -> new int[] {0, 1, 1, 2, 2, 0};
            case WINDOW -> new int[] {5, 4, 2, 3};
            case FULL -> allDots();
            default -> new int[0];
        };
    }

    int edges() {
        return dots().length / 2;
    }

    /** The 15 pairs of DOTS. */
    static int[] allDots() {
        int[] dots = new int[30];
        int at = 0;
        for (int dot = 0; dot < 6; dot++) {
            for (int other = dot + 1; other < 6; other++) {
                dots[at++] = dot;
                dots[at++] = other;
            }
        }
        return dots;
    }

    @Override
    public Chamberwright anew() {
        if (this == EMPTIED) {
            return emptied();
        }
        Chamberwright x = of(told);
        turn(x, dots());
        return x;
    }

    private static Chamberwright emptied() {
        Chamberwright x = FULL.anew();
        for (int left = FULL.lines(); left > 0; left--) {
            x.takeAway(left / 2);
        }
        turn(x, allDots());
        return x;
    }

    static void turn(Chamberwright x, int[] dots) {
        for (int at = 0; at < dots.length; at += 2) {
            x.edge(dots[at], dots[at + 1]);
        }
    }

    /** The second house, with the same LINES and EDGES. */
    Model model() {
        Model model = new Model();
        for (int line = 0; line < lines(); line++) {
            model.line(telling(line)[0], telling(line)[1], telling(line)[2]);
        }
        for (int at = 0; at < dots().length; at += 2) {
            model.edge(dots()[at], dots()[at + 1]);
        }
        return model;
    }

    /** A house with these LINES, told by three numbers each. */
    static Chamberwright of(int... told) {
        Chamberwright x = new Chamberwright();
        for (int at = 0; at < told.length; at += 3) {
            x.line(told[at], told[at + 1], told[at + 2]);
        }
        return x;
    }

    /** The same house without those LINES. */
    Chamberwright without(int... gone) {
        Chamberwright x = new Chamberwright();
        List<Integer> left = new ArrayList<>();
        for (int line = 0; line < lines(); line++) {
            left.add(line);
        }
        for (int line : gone) {
            left.remove((Integer) line);
        }
        for (int line : left) {
            x.line(telling(line)[0], telling(line)[1], telling(line)[2]);
        }
        turn(x, dots());
        return x;
    }

    /** X, Y and D of each MEET, and the set of the LINES through it. */
    int[][] points() {
        Chamberwright x = anew();
        int[][] points = new int[x.meets()][4];
        for (int meet = 0; meet < points.length; meet++) {
            for (int what = 0; what < 4; what++) {
                points[meet][what] = x.meet(meet, what);
            }
        }
        return points;
    }

    /** Above 0 if that point is above the LINE, 0 if it is on it. */
    int height(int line, int[] point) {
        return told[3 * line] * point[0] + told[3 * line + 1] * point[1] - told[3 * line + 2] * point[2];
    }

    int[] sets() {
        Chamberwright x = anew();
        int[] sets = new int[x.rooms()];
        for (int room = 0; room < sets.length; room++) {
            sets[room] = x.room(room, 0);
        }
        return sets;
    }
}
