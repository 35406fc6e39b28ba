/**
 * A house of LINES that cut a plane, and a graph of six DOTS beside it. What each call answers is
 * promised in ../shared/DOC.md; the words in capitals are explained there.
 *
 * <p>All arithmetic is on whole numbers: a point is told by X, Y and D as a MEET is, so that no
 * answer ever hangs on rounding. All rows are made by the constructor, none by a call.
 */
public final class Chamberwright {
    public static final int NONE = -1;

    private static final int MOST_LINES = 9;
    private static final int MOST_MEETS = 36;
    private static final int MOST_ROOMS = 46;
    private static final int SETS = 512;
    private static final int FARTHEST = 9;
    private static final int DOTS = 6;
    private static final int MOST_EDGES = 15;
    private static final int MOST_COLOURS = 6;
    private static final int[] PRIMES = {2, 3, 5, 7, 11, 13, 17, 19, 23, 29, 31};

    private final Lines lines;
    private final Meets meets;
    private final Rooms rooms;
    private final Graph graph;

    public Chamberwright() {
        lines = new Lines();
        meets = new Meets();
        rooms = new Rooms();
        graph = new Graph();
    }

    // ---- LINES, MEETS, the polynomial

    public int line(int a, int b, int c) throws IllegalArgumentException, IllegalStateException {
        if (isTooFar(a) || isTooFar(b) || isTooFar(c) || (a == 0 && b == 0)) {
            throw new IllegalArgumentException("a, b or c is out of range, or a and b are both 0");
        }
        if (lines.isFull() || lines.numberOf(a, b, c) != NONE) {
            throw new IllegalStateException("the LINE is there, or there are 9");
        }
        lines.append(a, b, c);
        lookAnew();
        return lines.count() - 1;
    }

    public int takeAway(int line) throws IndexOutOfBoundsException {
        checkLine(line);
        lines.remove(line);
        lookAnew();
        return lines.count();
    }

    public int meets() {
        return meets.count();
    }

    public int meet(int meet, int what) throws IndexOutOfBoundsException, IllegalArgumentException {
        checkMeet(meet);
        switch (what) {
            case 0: return meets.x(meet);
            case 1: return meets.y(meet);
            case 2: return meets.d(meet);
            case 3: return meets.through(meet);
            default: throw new IllegalArgumentException("what is 0 to 3");
        }
    }

    public int polynomial(int power) throws IllegalArgumentException {
        checkPower(power);
        return numberWithPower(power, meets.surplus());
    }

    public int polynomialAnew(int power) throws IllegalArgumentException {
        checkPower(power);
        int added = 0;
        for (int line = 0; line < lines.count(); line++) {
            added += lines.pointsOnLowerOnes(line);
        }
        return numberWithPower(power, added);
    }

    public int points(int prime) throws IllegalArgumentException {
        if (!isPrime(prime)) {
            throw new IllegalArgumentException("a prime is a prime number from 2 to 31");
        }
        int free = 0;
        for (int x = 0; x < prime; x++) {
            for (int y = 0; y < prime; y++) {
                if (!lines.isAnyOver(prime, x, y)) {
                    free++;
                }
            }
        }
        return free;
    }

    // ---- ROOMS

    public int rooms() {
        return rooms.count();
    }

    public int bounded() {
        int found = 0;
        for (int room = 0; room < rooms.count(); room++) {
            if (rooms.isBounded(lines, room)) {
                found++;
            }
        }
        return found;
    }

    public int room(int room, int what) throws IndexOutOfBoundsException, IllegalArgumentException {
        checkRoom(room);
        switch (what) {
            case 0: return rooms.set(room);
            case 1: return rooms.isBounded(lines, room) ? 1 : 0;
            case 2: return rooms.walls(room);
            case 3: return meets.cornersOf(rooms.set(room));
            default: throw new IllegalArgumentException("what is 0 to 3");
        }
    }

    public int roomOf(int set) throws IllegalArgumentException {
        if (set < 0 || set >= SETS) {
            throw new IllegalArgumentException("a set is 0 to 511");
        }
        return rooms.numberOf(set);
    }

    public int corner(int room, int place) throws IndexOutOfBoundsException {
        checkRoom(room);
        checkPlace(place);
        return meets.cornerAt(rooms.set(room), place);
    }

    public int galleries(int room, int other) throws IndexOutOfBoundsException {
        checkRoom(room);
        checkRoom(other);
        return rooms.shortestWays(room, other);
    }

    public int gallery(int room, int other, int step) throws IndexOutOfBoundsException {
        checkRoom(room);
        checkRoom(other);
        checkPlace(step);
        return rooms.onFirstWay(room, other, step);
    }

    public int project(int room, int meet) throws IndexOutOfBoundsException {
        checkRoom(room);
        checkMeet(meet);
        return rooms.numberOf(meets.projected(meet, rooms.set(room)));
    }

    public int best(int room, int gx, int gy) throws IndexOutOfBoundsException, IllegalArgumentException {
        checkRoom(room);
        if (isTooFar(gx) || isTooFar(gy) || (gx == 0 && gy == 0)) {
            throw new IllegalArgumentException("gx or gy is out of range, or both are 0");
        }
        return rooms.hasBound(lines, room, gx, gy) ? meets.bestCorner(rooms.set(room), gx, gy) : NONE;
    }

    // ---- reflections, pairs

    public int reflected(int line, int mirror) throws IndexOutOfBoundsException {
        checkLine(line);
        checkLine(mirror);
        return lines.mirrored(line, mirror);
    }

    public boolean isKaleidoscope() {
        for (int line = 0; line < lines.count(); line++) {
            for (int mirror = 0; mirror < lines.count(); mirror++) {
                if (lines.mirrored(line, mirror) == NONE) {
                    return false;
                }
            }
        }
        return true;
    }

    public int pairs() {
        int found = 0;
        for (int low = 0; low < lines.count(); low++) {
            for (int high = low + 1; high < lines.count(); high++) {
                if (meets.isLowestPair(low, high)) {
                    found++;
                }
            }
        }
        return found;
    }

    public int pair(int place) throws IndexOutOfBoundsException {
        checkPlace(place);
        int ahead = 0;
        for (int low = 0; low < lines.count(); low++) {
            for (int high = low + 1; high < lines.count(); high++) {
                if (!meets.isLowestPair(low, high)) {
                    continue;
                }
                if (ahead == place) {
                    return bit(low) | bit(high);
                }
                ahead++;
            }
        }
        return NONE;
    }

    // ---- the graph

    public int edge(int dot, int other) throws IndexOutOfBoundsException, IllegalArgumentException {
        if (!isDot(dot) || !isDot(other)) {
            throw new IndexOutOfBoundsException("a DOT is 0 to 5");
        }
        if (dot == other) {
            throw new IllegalArgumentException("an EDGE is between two DOTS");
        }
        graph.turn(dot, other);
        return graph.count();
    }

    public int colourings(int colours) throws IllegalArgumentException {
        checkColours(colours);
        return graph.tryAllColours(colours);
    }

    public int colouringsAnew(int colours) throws IllegalArgumentException {
        checkColours(colours);
        return graph.takeApart(colours);
    }

    public int directions() {
        return graph.tryAllDirections();
    }

    public int directionsAnew() {
        // (-1) to the power of the DOTS is 1, as they are six: so no sign is left to be taken off.
        return graph.takeApart(-1);
    }

    // ---- what the calls share

    private void lookAnew() {
        meets.find(lines);
        rooms.find(lines, meets);
    }

    private int numberWithPower(int power, int withoutT) {
        if (power == 2) {
            return 1;
        }
        return power == 1 ? -lines.count() : withoutT;
    }

    private void checkLine(int line) {
        if (line < 0 || line >= lines.count()) {
            throw new IndexOutOfBoundsException("there is no such LINE");
        }
    }

    private void checkMeet(int meet) {
        if (meet < 0 || meet >= meets.count()) {
            throw new IndexOutOfBoundsException("there is no such MEET");
        }
    }

    private void checkRoom(int room) {
        if (room < 0 || room >= rooms.count()) {
            throw new IndexOutOfBoundsException("there is no such ROOM");
        }
    }

    private static void checkPlace(int place) {
        if (place < 0) {
            throw new IndexOutOfBoundsException("places and steps are counted from 0");
        }
    }

    private static void checkPower(int power) {
        if (power < 0 || power > 2) {
            throw new IllegalArgumentException("a power is 0 to 2");
        }
    }

    private static void checkColours(int colours) {
        if (colours < 0 || colours > MOST_COLOURS) {
            throw new IllegalArgumentException("colours are 0 to 6");
        }
    }

    private static boolean isTooFar(int number) {
        return number < -FARTHEST || number > FARTHEST;
    }

    private static boolean isDot(int dot) {
        return dot >= 0 && dot < DOTS;
    }

    private static boolean isPrime(int number) {
        for (int prime : PRIMES) {
            if (prime == number) {
                return true;
            }
        }
        return false;
    }

    private static int bit(int place) {
        return 1 << place;
    }

    private static boolean isIn(int set, int place) {
        return (set & bit(place)) != 0;
    }

    /** The LINES as they were told, by their numbers. */
    private static final class Lines {
        private final int[] as;
        private final int[] bs;
        private final int[] cs;
        private int count;

        Lines() {
            as = new int[MOST_LINES];
            bs = new int[MOST_LINES];
            cs = new int[MOST_LINES];
            count = 0;
        }

        int count() {
            return count;
        }

        boolean isFull() {
            return count >= MOST_LINES;
        }

        int a(int line) {
            return as[line];
        }

        int b(int line) {
            return bs[line];
        }

        int c(int line) {
            return cs[line];
        }

        void append(int a, int b, int c) {
            if (isFull()) {
                return;
            }
            as[count] = a;
            bs[count] = b;
            cs[count] = c;
            count++;
        }

        void remove(int line) {
            for (int next = line + 1; next < count; next++) {
                as[next - 1] = as[next];
                bs[next - 1] = bs[next];
                cs[next - 1] = cs[next];
            }
            count--;
        }

        int numberOf(int a, int b, int c) {
            for (int line = 0; line < count; line++) {
                if (as[line] * b == bs[line] * a && as[line] * c == cs[line] * a && bs[line] * c == cs[line] * b) {
                    return line;
                }
            }
            return NONE;
        }

        /** 0 if the two never cross; else the D of the point where they do, of either sign. */
        int crossD(int one, int other) {
            return as[one] * bs[other] - as[other] * bs[one];
        }

        int crossX(int one, int other) {
            return cs[one] * bs[other] - cs[other] * bs[one];
        }

        int crossY(int one, int other) {
            return as[one] * cs[other] - as[other] * cs[one];
        }

        /** With D above 0 its sign tells on which side of the LINE the point is. */
        int height(int line, int x, int y, int d) {
            return as[line] * x + bs[line] * y - cs[line] * d;
        }

        /** The LINES above which the point is. */
        int setBelow(int x, int y, int d) {
            int set = 0;
            for (int line = 0; line < count; line++) {
                if (height(line, x, y, d) > 0) {
                    set |= bit(line);
                }
            }
            return set;
        }

        int pointsOnLowerOnes(int line) {
            int found = 0;
            for (int lower = 0; lower < line; lower++) {
                if (crossD(line, lower) != 0 && !isCrossedBefore(line, lower)) {
                    found++;
                }
            }
            return found;
        }

        /** A point where several lower LINES cross the one counts once, with the lowest of them. */
        private boolean isCrossedBefore(int line, int lower) {
            int x = crossX(line, lower);
            int y = crossY(line, lower);
            int d = crossD(line, lower);
            for (int lowest = 0; lowest < lower; lowest++) {
                if (height(lowest, x, y, d) == 0) {
                    return true;
                }
            }
            return false;
        }

        boolean isAnyOver(int prime, int x, int y) {
            for (int line = 0; line < count; line++) {
                if (prime != 0 && height(line, x, y, 1) % prime == 0) {
                    return true;
                }
            }
            return false;
        }

        /** Told by whole numbers, as all of a telling may be multiplied by the mirror's a a + b b. */
        int mirrored(int line, int mirror) {
            int square = as[mirror] * as[mirror] + bs[mirror] * bs[mirror];
            int twice = 2 * (as[line] * as[mirror] + bs[line] * bs[mirror]);
            return numberOf(
                    square * as[line] - twice * as[mirror],
                    square * bs[line] - twice * bs[mirror],
                    square * cs[line] - twice * cs[mirror]);
        }

        /** Whether one that is in the ROOM with the set never leaves it by going that way. */
        boolean staysIn(int set, int dx, int dy) {
            for (int line = 0; line < count; line++) {
                int rise = as[line] * dx + bs[line] * dy;
                if (isIn(set, line) ? rise < 0 : rise > 0) {
                    return false;
                }
            }
            return true;
        }
    }

    /** The MEETS by their numbers: found anew whenever the LINES change. */
    private static final class Meets {
        /** Far more than Euclid's algorithm needs for numbers up to 162. */
        private static final int MOST_DIVISIONS = 64;

        private final int[] xs;
        private final int[] ys;
        private final int[] ds;
        /** The LINES on which the MEET is, and those above which it is, as sets. */
        private final int[] through;
        private final int[] above;
        private int count;

        Meets() {
            xs = new int[MOST_MEETS];
            ys = new int[MOST_MEETS];
            ds = new int[MOST_MEETS];
            through = new int[MOST_MEETS];
            above = new int[MOST_MEETS];
            count = 0;
        }

        int count() {
            return count;
        }

        int x(int meet) {
            return xs[meet];
        }

        int y(int meet) {
            return ys[meet];
        }

        int d(int meet) {
            return ds[meet];
        }

        int through(int meet) {
            return through[meet];
        }

        void find(Lines lines) {
            count = 0;
            for (int one = 0; one < lines.count(); one++) {
                for (int other = one + 1; other < lines.count(); other++) {
                    int d = lines.crossD(one, other);
                    if (d != 0) {
                        int sign = d < 0 ? -1 : 1;
                        int both = bit(one) | bit(other);
                        enter(sign * lines.crossX(one, other), sign * lines.crossY(one, other), sign * d, both);
                    }
                }
            }
            for (int meet = 0; meet < count; meet++) {
                above[meet] = lines.setBelow(xs[meet], ys[meet], ds[meet]);
            }
        }

        private void enter(int wideX, int wideY, int wideD, int both) {
            int divisor = commonDivisor(commonDivisor(wideX, wideY), wideD);
            int x = divisor > 1 ? wideX / divisor : wideX;
            int y = divisor > 1 ? wideY / divisor : wideY;
            int d = divisor > 1 ? wideD / divisor : wideD;
            int place = 0;
            while (place < count && order(place, x, y, d) < 0) {
                place++;
            }
            if (place < count && order(place, x, y, d) == 0) {
                through[place] |= both;
            } else if (count < MOST_MEETS) {
                makeWay(place);
                xs[place] = x;
                ys[place] = y;
                ds[place] = d;
                through[place] = both;
            }
        }

        private void makeWay(int place) {
            for (int meet = count; meet > place; meet--) {
                xs[meet] = xs[meet - 1];
                ys[meet] = ys[meet - 1];
                ds[meet] = ds[meet - 1];
                through[meet] = through[meet - 1];
            }
            count++;
        }

        /** Below 0 if the MEET is ahead of the point, 0 if it is the point. */
        private int order(int meet, int x, int y, int d) {
            int byX = xs[meet] * d - x * ds[meet];
            return byX != 0 ? byX : ys[meet] * d - y * ds[meet];
        }

        private static int commonDivisor(int one, int other) {
            int left = Math.abs(one);
            int right = Math.abs(other);
            for (int i = 0; i < MOST_DIVISIONS && right != 0; i++) {
                int rest = left % right;
                left = right;
                right = rest;
            }
            return left;
        }

        int surplus() {
            int sum = 0;
            for (int meet = 0; meet < count; meet++) {
                sum += Integer.bitCount(through[meet]) - 1;
            }
            return sum;
        }

        boolean isOn(int meet, int line) {
            return isIn(through[meet], line);
        }

        boolean isLowestPair(int low, int high) {
            for (int meet = 0; meet < count; meet++) {
                if (isOn(meet, low) && isOn(meet, high)) {
                    return (through[meet] & (bit(low) - 1)) == 0;
                }
            }
            return false;
        }

        int projected(int meet, int set) {
            return (set & through[meet]) | above[meet];
        }

        /** A ROOM that has the MEET as a corner is its own projection, and no other one is. */
        private boolean isCornerOf(int meet, int set) {
            return projected(meet, set) == set;
        }

        int cornersOf(int set) {
            int found = 0;
            for (int meet = 0; meet < count; meet++) {
                if (isCornerOf(meet, set)) {
                    found++;
                }
            }
            return found;
        }

        int cornerAt(int set, int place) {
            int ahead = 0;
            for (int meet = 0; meet < count; meet++) {
                if (!isCornerOf(meet, set)) {
                    continue;
                }
                if (ahead == place) {
                    return meet;
                }
                ahead++;
            }
            return NONE;
        }

        int bestCorner(int set, int gx, int gy) {
            int best = NONE;
            for (int meet = 0; meet < count; meet++) {
                if (isCornerOf(meet, set) && (best == NONE || isBetter(meet, best, gx, gy))) {
                    best = meet;
                }
            }
            return best;
        }

        private boolean isBetter(int meet, int other, int gx, int gy) {
            int goal = gx * xs[meet] + gy * ys[meet];
            int otherGoal = gx * xs[other] + gy * ys[other];
            return goal * ds[other] > otherGoal * ds[meet];
        }
    }

    /** The ROOMS by their numbers: found anew whenever the LINES change. */
    private static final class Rooms {
        private final int[] sets;
        private final int[] numbers;
        private final int[] ways;
        private int count;

        Rooms() {
            sets = new int[MOST_ROOMS];
            numbers = new int[SETS];
            ways = new int[SETS];
            for (int set = 1; set < SETS; set++) {
                numbers[set] = NONE;
            }
            count = 1;
        }

        int count() {
            return count;
        }

        int set(int room) {
            return sets[room];
        }

        int numberOf(int set) {
            return numbers[set];
        }

        void find(Lines lines, Meets meets) {
            for (int set = 0; set < SETS; set++) {
                numbers[set] = NONE;
            }
            if (lines.count() == 0) {
                numbers[0] = 0;
            }
            // With LINES each ROOM has a wall: so it is beside some stretch of some LINE.
            for (int line = 0; line < lines.count(); line++) {
                markAlong(lines, meets, line);
            }
            giveNumbers();
        }

        private void giveNumbers() {
            count = 0;
            for (int set = 0; set < SETS; set++) {
                if (numbers[set] != NONE && count < MOST_ROOMS) {
                    numbers[set] = count;
                    sets[count] = set;
                    count++;
                }
            }
        }

        /** The order of the MEETS is also the one in which those of one LINE stand along it. */
        private void markAlong(Lines lines, Meets meets, int line) {
            int last = NONE;
            for (int meet = 0; meet < meets.count(); meet++) {
                if (!meets.isOn(meet, line)) {
                    continue;
                }
                if (last == NONE) {
                    markBeyond(lines, meets, line, meet, -1);
                } else {
                    markBetween(lines, meets, line, last, meet);
                }
                last = meet;
            }
            if (last == NONE) {
                markUncrossed(lines, line);
            } else {
                markBeyond(lines, meets, line, last, 1);
            }
        }

        private void markUncrossed(Lines lines, int line) {
            int a = lines.a(line);
            int b = lines.b(line);
            int c = lines.c(line);
            markBeside(line, lines.setBelow(a * c, b * c, a * a + b * b));
        }

        private void markBetween(Lines lines, Meets meets, int line, int one, int other) {
            int x = meets.x(one) * meets.d(other) + meets.x(other) * meets.d(one);
            int y = meets.y(one) * meets.d(other) + meets.y(other) * meets.d(one);
            markBeside(line, lines.setBelow(x, y, 2 * meets.d(one) * meets.d(other)));
        }

        /** Ahead of the first MEET of a LINE (way -1) or behind its last one (way 1). */
        private void markBeyond(Lines lines, Meets meets, int line, int meet, int way) {
            int dx = lines.b(line);
            int dy = -lines.a(line);
            boolean risesInOrder = dx != 0 ? dx > 0 : dy > 0;
            int step = (risesInOrder ? way : -way) * meets.d(meet);
            int x = meets.x(meet) + step * dx;
            int y = meets.y(meet) + step * dy;
            markBeside(line, lines.setBelow(x, y, meets.d(meet)));
        }

        /** The set is that of a point on that LINE and on no other one; any mark will do until all are there. */
        private void markBeside(int line, int set) {
            numbers[set] = 0;
            numbers[set | bit(line)] = 0;
        }

        /** Without bound a ROOM goes on for ever along one of the LINES, if there are LINES. */
        boolean isBounded(Lines lines, int room) {
            for (int line = 0; line < lines.count(); line++) {
                int dx = lines.b(line);
                int dy = -lines.a(line);
                if (lines.staysIn(sets[room], dx, dy) || lines.staysIn(sets[room], -dx, -dy)) {
                    return false;
                }
            }
            return lines.count() > 0;
        }

        /**
         * A half plane has no bound straight away from its LINES, where none of them leads: so the goal's
         * own way counts too.
         */
        boolean hasBound(Lines lines, int room, int gx, int gy) {
            for (int line = 0; line < lines.count(); line++) {
                int dx = lines.b(line);
                int dy = -lines.a(line);
                int gain = gx * dx + gy * dy;
                if (gain > 0 && lines.staysIn(sets[room], dx, dy)) {
                    return false;
                }
                if (gain < 0 && lines.staysIn(sets[room], -dx, -dy)) {
                    return false;
                }
            }
            return !lines.staysIn(sets[room], gx, gy);
        }

        int walls(int room) {
            int found = 0;
            for (int line = 0; line < MOST_LINES; line++) {
                if (numbers[sets[room] ^ bit(line)] != NONE) {
                    found |= bit(line);
                }
            }
            return found;
        }

        /** Each step crosses a LINE between the two: fewer would not do, more are not needed. */
        int shortestWays(int room, int other) {
            int start = sets[room];
            int apart = start ^ sets[other];
            ways[start] = 1;
            for (int crossed = 1; crossed <= apart; crossed++) {
                if ((crossed & ~apart) == 0) {
                    ways[start ^ crossed] = waysInto(start, crossed);
                }
            }
            return ways[start ^ apart];
        }

        private int waysInto(int start, int crossed) {
            if (numbers[start ^ crossed] == NONE) {
                return 0;
            }
            int sum = 0;
            for (int line = 0; line < MOST_LINES; line++) {
                if (isIn(crossed, line)) {
                    sum += ways[start ^ crossed ^ bit(line)];
                }
            }
            return sum;
        }

        int onFirstWay(int room, int other, int step) {
            int set = sets[room];
            for (int i = 0; i < MOST_LINES && i < step && set != sets[other]; i++) {
                set = stepTowards(set, sets[other]);
            }
            return step <= Integer.bitCount(sets[room] ^ sets[other]) ? numbers[set] : NONE;
        }

        /** Any wall between the two lies on some shortest way, so that the lowest one may be taken. */
        private int stepTowards(int set, int goal) {
            for (int line = 0; line < MOST_LINES; line++) {
                if (isIn(set ^ goal, line) && numbers[set ^ bit(line)] != NONE) {
                    return set ^ bit(line);
                }
            }
            return set;
        }
    }

    /**
     * The EDGES as one number: for each DOT a row of six signs, one for each DOT beside it. So each
     * EDGE stands there twice, and a changed graph is a number of its own, not a new object.
     */
    private static final class Graph {
        private static final int ROW = (1 << DOTS) - 1;

        private long edges;

        Graph() {
            edges = 0;
        }

        void turn(int dot, int other) {
            edges ^= tie(dot, other);
        }

        int count() {
            return Long.bitCount(edges) / 2;
        }

        int tryAllColours(int colours) {
            return tried(edges, colours, 0, 0);
        }

        int takeApart(int colours) {
            return apart(edges, colours, DOTS, 0);
        }

        int tryAllDirections() {
            return directed(edges, 0, 0);
        }

        private static long sign(int dot, int other) {
            return 1L << (DOTS * dot + other);
        }

        private static long tie(int dot, int other) {
            return sign(dot, other) | sign(other, dot);
        }

        private static int row(long rows, int dot) {
            return (int) (rows >>> (DOTS * dot)) & ROW;
        }

        /** The rows of `dyed` tell for each colour which DOTS have it. */
        private static int tried(long edges, int colours, int dot, long dyed) {
            if (dot >= DOTS) {
                return 1;
            }
            int beside = row(edges, dot);
            int found = 0;
            for (int colour = 0; colour < colours; colour++) {
                if ((row(dyed, colour) & beside) == 0) {
                    found += tried(edges, colours, dot + 1, dyed | sign(colour, dot));
                }
            }
            return found;
        }

        /** Each level has an EDGE less, so that the depth is never above their number. */
        private static int apart(long edges, int colours, int dots, int depth) {
            if (edges == 0 || depth >= MOST_EDGES) {
                return power(colours, dots);
            }
            int dot = firstWithEdge(edges);
            int other = firstIn(row(edges, dot));
            long without = edges & ~tie(dot, other);
            return apart(without, colours, dots, depth + 1)
                    - apart(madeOne(without, dot, other), colours, dots - 1, depth + 1);
        }

        private static int power(int base, int exponent) {
            int product = 1;
            for (int i = 0; i < exponent; i++) {
                product *= base;
            }
            return product;
        }

        private static int firstWithEdge(long edges) {
            int dot = 0;
            while (dot < DOTS - 1 && row(edges, dot) == 0) {
                dot++;
            }
            return dot;
        }

        private static int firstIn(int row) {
            int dot = 0;
            while (dot < DOTS - 1 && !isIn(row, dot)) {
                dot++;
            }
            return dot;
        }

        /** The other DOT stays as one without EDGES, which the number of DOTS leaves out. */
        private static long madeOne(long edges, int dot, int other) {
            long changed = edges;
            for (int third = 0; third < DOTS; third++) {
                if (isIn(row(edges, other), third)) {
                    changed = (changed & ~tie(other, third)) | tie(dot, third);
                }
            }
            return changed;
        }

        /** The rows of `reach` tell for each DOT to which ones the EDGES directed so far lead. */
        private static int directed(long left, int depth, long reach) {
            if (left == 0 || depth >= MOST_EDGES) {
                return 1;
            }
            int dot = firstWithEdge(left);
            int other = firstIn(row(left, dot));
            long rest = left & ~tie(dot, other);
            int found = 0;
            if (!isIn(row(reach, other), dot)) {
                found += directed(rest, depth + 1, led(reach, dot, other));
            }
            if (!isIn(row(reach, dot), other)) {
                found += directed(rest, depth + 1, led(reach, other, dot));
            }
            return found;
        }

        private static long led(long reach, int from, int to) {
            int gained = row(reach, to) | bit(to);
            long changed = reach;
            for (int dot = 0; dot < DOTS; dot++) {
                if (dot == from || isIn(row(reach, dot), from)) {
                    changed |= (long) gained << (DOTS * dot);
                }
            }
            return changed;
        }
    }
}
