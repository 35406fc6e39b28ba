import java.math.BigInteger;
import java.util.ArrayDeque;
import java.util.ArrayList;
import java.util.HashMap;
import java.util.List;
import java.util.Map;
import java.util.TreeMap;

/**
 * A second house, built by other ways than the program's: ROOMS by putting unknowns out of
 * inequalities, galleries by walking all of them, directions by trying all of them.
 */
final class Model {
    private static final int NONE = -1;
    /** Beyond every MEET: their x and y are at most 162, and goals at them at most 2916. */
    private static final int BEYOND = 1_000_000;

    private final List<int[]> lines = new ArrayList<>();
    private final boolean[][] edges = new boolean[6][6];
    private List<Point> meets = new ArrayList<>();
    private List<Integer> rooms = new ArrayList<>(List.of(0));
    private final Map<String, Integer> known = new HashMap<>();

    /** x / d and y / d, made as small as can be, with d above 0. */
    private record Point(long x, long y, long d) implements Comparable<Point> {
        static Point of(long x, long y, long d) {
            BigInteger all = BigInteger.valueOf(x).gcd(BigInteger.valueOf(y)).gcd(BigInteger.valueOf(d));
            long by = all.longValueExact() * Long.signum(d);
            return new Point(x / by, y / by, d / by);
        }

        @Override
        public int compareTo(Point other) {
            int byX = Long.compare(x * other.d, other.x * d);
            return byX != 0 ? byX : Long.compare(y * other.d, other.y * d);
        }
    }

    private static int outOfBounds() {
        throw new IndexOutOfBoundsException();
    }

    private static int illegal() {
        throw new IllegalArgumentException();
    }

    // ---- LINES, MEETS, the polynomial

    int line(int a, int b, int c) {
        if (Math.abs((long) a) > 9 || Math.abs((long) b) > 9 || Math.abs((long) c) > 9 || (a == 0 && b == 0)) {
            return illegal();
        }
        if (numberOf(a, b, c) != NONE || lines.size() == 9) {
            throw new IllegalStateException();
        }
        lines.add(new int[] {a, b, c});
        changed();
        return lines.size() - 1;
    }

    int takeAway(int line) {
        if (line < 0 || line >= lines.size()) {
            return outOfBounds();
        }
        lines.remove(line);
        changed();
        return lines.size();
    }

    private void changed() {
        TreeMap<Point, Integer> found = new TreeMap<>();
        for (int i = 0; i < lines.size(); i++) {
            for (int j = 0; j < i; j++) {
                int[] p = lines.get(i);
                int[] q = lines.get(j);
                long d = (long) p[0] * q[1] - (long) p[1] * q[0];
                if (d != 0) {
                    Point point = Point.of((long) p[2] * q[1] - (long) p[1] * q[2], (long) p[0] * q[2] - (long) p[2] * q[0], d);
                    found.put(point, 0);
                }
            }
        }
        meets = new ArrayList<>(found.keySet());
        rooms = new ArrayList<>();
        for (int set = 0; set < 1 << lines.size(); set++) {
            if (hasPoints(set, null)) {
                rooms.add(set);
            }
        }
    }

    private static long height(int[] line, Point at) {
        return line[0] * at.x + line[1] * at.y - line[2] * at.d;
    }

    private int setOn(Point at) {
        int set = 0;
        for (int i = 0; i < lines.size(); i++) {
            set |= height(lines.get(i), at) == 0 ? 1 << i : 0;
        }
        return set;
    }

    int meets() {
        return meets.size();
    }

    int meet(int meet, int what) {
        if (meet < 0 || meet >= meets.size()) {
            return outOfBounds();
        }
        if (what < 0 || what > 3) {
            return illegal();
        }
        Point at = meets.get(meet);
        return (int) new long[] {at.x, at.y, at.d, setOn(at)}[what];
    }

    int polynomial(int power) {
        if (power < 0 || power > 2) {
            return illegal();
        }
        // For t from 0 on: as many as the points of a plane over t, were t a large prime.
        int withoutT = 0;
        for (Point at : meets) {
            withoutT += Integer.bitCount(setOn(at)) - 1;
        }
        return new int[] {withoutT, -lines.size(), 1}[power];
    }

    int polynomialAnew(int power) {
        return polynomial(power);
    }

    int points(int prime) {
        if (prime > 31 || prime < 2 || !BigInteger.valueOf(prime).isProbablePrime(50)) {
            return illegal();
        }
        int free = 0;
        for (int at = 0; at < prime * prime; at++) {
            int x = at / prime;
            int y = at % prime;
            free += lines.stream().noneMatch(l -> Math.floorMod(l[0] * x + l[1] * y - l[2], prime) == 0) ? 1 : 0;
        }
        return free;
    }

    // ---- ROOMS

    /** Whether some point is on those sides, and beyond one more LINE that may be told: p x + q y > r. */
    private boolean hasPoints(int set, long[] more) {
        List<long[]> all = new ArrayList<>();
        for (int i = 0; i < lines.size(); i++) {
            int[] l = lines.get(i);
            long sign = (set >> i & 1) == 1 ? 1 : -1;
            all.add(new long[] {sign * l[0], sign * l[1], sign * l[2]});
        }
        if (more != null) {
            all.add(more);
        }
        return yFits(withoutX(all));
    }

    /** Each two that bound x from both sides bound y; each q y > r. */
    private static List<long[]> withoutX(List<long[]> all) {
        List<long[]> rest = new ArrayList<>();
        for (long[] low : all) {
            if (low[0] == 0) {
                rest.add(new long[] {low[1], low[2]});
            }
            for (long[] high : all) {
                if (low[0] > 0 && high[0] < 0) {
                    rest.add(new long[] {-high[0] * low[1] + low[0] * high[1], -high[0] * low[2] + low[0] * high[2]});
                }
            }
        }
        return rest;
    }

    private static boolean yFits(List<long[]> bounds) {
        for (long[] low : bounds) {
            if (low[0] == 0 && low[1] >= 0) {
                return false;
            }
            for (long[] high : bounds) {
                if (low[0] > 0 && high[0] < 0 && low[1] * high[0] <= high[1] * low[0]) {
                    return false;
                }
            }
        }
        return true;
    }

    int rooms() {
        return rooms.size();
    }

    private boolean isBounded(int set) {
        return !hasPoints(set, new long[] {1, 0, BEYOND}) && !hasPoints(set, new long[] {-1, 0, BEYOND})
                && !hasPoints(set, new long[] {0, 1, BEYOND}) && !hasPoints(set, new long[] {0, -1, BEYOND});
    }

    int bounded() {
        return (int) rooms.stream().filter(this::isBounded).count();
    }

    private int walls(int set) {
        int walls = 0;
        for (int i = 0; i < lines.size(); i++) {
            walls |= rooms.contains(set ^ 1 << i) ? 1 << i : 0;
        }
        return walls;
    }

    private List<Integer> cornersOf(int set) {
        List<Integer> found = new ArrayList<>();
        for (int meet = 0; meet < meets.size(); meet++) {
            boolean is = true;
            for (int i = 0; i < lines.size(); i++) {
                long height = height(lines.get(i), meets.get(meet));
                is &= (set >> i & 1) == 1 ? height >= 0 : height <= 0;
            }
            if (is) {
                found.add(meet);
            }
        }
        return found;
    }

    private boolean isNoRoom(int room) {
        return room < 0 || room >= rooms.size();
    }

    int room(int room, int what) {
        if (isNoRoom(room)) {
            return outOfBounds();
        }
        if (what < 0 || what > 3) {
            return illegal();
        }
        int set = rooms.get(room);
        return new int[] {set, isBounded(set) ? 1 : 0, walls(set), cornersOf(set).size()}[what];
    }

    int roomOf(int set) {
        return set < 0 || set > 511 ? illegal() : rooms.indexOf(set);
    }

    int corner(int room, int place) {
        if (isNoRoom(room) || place < 0) {
            return outOfBounds();
        }
        List<Integer> corners = cornersOf(rooms.get(room));
        return place < corners.size() ? corners.get(place) : NONE;
    }

    /** How many steps over one LINE each ROOM is away, found by walking them all. */
    private Map<Integer, Integer> distances(int from) {
        Map<Integer, Integer> far = new HashMap<>(Map.of(from, 0));
        ArrayDeque<Integer> open = new ArrayDeque<>(List.of(from));
        while (!open.isEmpty()) {
            int set = open.remove();
            for (int i = 0; i < lines.size(); i++) {
                int next = set ^ 1 << i;
                if (rooms.contains(next) && !far.containsKey(next)) {
                    far.put(next, far.get(set) + 1);
                    open.add(next);
                }
            }
        }
        return far;
    }

    int galleries(int room, int other) {
        if (isNoRoom(room) || isNoRoom(other)) {
            return outOfBounds();
        }
        return galleriesFrom(rooms.get(room), distances(rooms.get(other)));
    }

    private int galleriesFrom(int set, Map<Integer, Integer> far) {
        if (far.get(set) == 0) {
            return 1;
        }
        int sum = 0;
        for (int i = 0; i < lines.size(); i++) {
            Integer next = far.get(set ^ 1 << i);
            sum += next != null && next == far.get(set) - 1 ? galleriesFrom(set ^ 1 << i, far) : 0;
        }
        return sum;
    }

    int gallery(int room, int other, int step) {
        if (isNoRoom(room) || isNoRoom(other) || step < 0) {
            return outOfBounds();
        }
        Map<Integer, Integer> far = distances(rooms.get(other));
        List<Integer> walk = new ArrayList<>(List.of(room));
        for (int set = rooms.get(room); far.get(set) > 0; ) {
            int line = 0;
            while (!far.containsKey(set ^ 1 << line) || far.get(set ^ 1 << line) > far.get(set)) {
                line++;
            }
            set ^= 1 << line;
            walk.add(rooms.indexOf(set));
        }
        return step < walk.size() ? walk.get(step) : NONE;
    }

    int project(int room, int meet) {
        if (isNoRoom(room) || meet < 0 || meet >= meets.size()) {
            return outOfBounds();
        }
        int set = 0;
        for (int i = 0; i < lines.size(); i++) {
            long height = height(lines.get(i), meets.get(meet));
            set |= height > 0 ? 1 << i : height == 0 ? rooms.get(room) & 1 << i : 0;
        }
        return rooms.indexOf(set);
    }

    int best(int room, int gx, int gy) {
        if (isNoRoom(room)) {
            return outOfBounds();
        }
        if (Math.abs((long) gx) > 9 || Math.abs((long) gy) > 9 || (gx == 0 && gy == 0)) {
            return illegal();
        }
        if (hasPoints(rooms.get(room), new long[] {gx, gy, BEYOND})) {
            return NONE;
        }
        int best = NONE;
        for (int meet : cornersOf(rooms.get(room))) {
            if (best == NONE || goal(meet, gx, gy) * meets.get(best).d > goal(best, gx, gy) * meets.get(meet).d) {
                best = meet;
            }
        }
        return best;
    }

    private long goal(int meet, int gx, int gy) {
        return gx * meets.get(meet).x + gy * meets.get(meet).y;
    }

    // ---- reflections, pairs

    private int numberOf(long a, long b, long c) {
        for (int i = 0; i < lines.size(); i++) {
            int[] l = lines.get(i);
            if (l[0] * b == l[1] * a && l[0] * c == l[2] * a && l[1] * c == l[2] * b) {
                return i;
            }
        }
        return NONE;
    }

    int reflected(int line, int mirror) {
        if (line < 0 || line >= lines.size() || mirror < 0 || mirror >= lines.size()) {
            return outOfBounds();
        }
        int[] l = lines.get(line);
        long square = (long) l[0] * l[0] + (long) l[1] * l[1];
        Point one = image(new Point((long) l[0] * l[2], (long) l[1] * l[2], square), lines.get(mirror));
        Point other = image(new Point((long) l[0] * l[2] - l[1], (long) l[1] * l[2] + l[0], square), lines.get(mirror));
        for (int i = 0; i < lines.size(); i++) {
            if (height(lines.get(i), one) == 0 && height(lines.get(i), other) == 0) {
                return i;
            }
        }
        return NONE;
    }

    /** The point as far behind the mirror as the told one is ahead of it. */
    private static Point image(Point at, int[] mirror) {
        long square = (long) mirror[0] * mirror[0] + (long) mirror[1] * mirror[1];
        long height = height(mirror, at);
        return new Point(at.x * square - 2 * height * mirror[0], at.y * square - 2 * height * mirror[1], at.d * square);
    }

    boolean isKaleidoscope() {
        for (int i = 0; i < lines.size(); i++) {
            for (int j = 0; j < lines.size(); j++) {
                if (i != j && reflected(i, j) == NONE) {
                    return false;
                }
            }
        }
        return true;
    }

    private List<Integer> allPairs() {
        TreeMap<Integer, Integer> found = new TreeMap<>();
        for (Point at : meets) {
            int set = setOn(at);
            int low = Integer.numberOfTrailingZeros(set);
            for (int high = low + 1; high < lines.size(); high++) {
                if ((set >> high & 1) == 1) {
                    found.put(low * 9 + high, 1 << low | 1 << high);
                }
            }
        }
        return new ArrayList<>(found.values());
    }

    int pairs() {
        return allPairs().size();
    }

    int pair(int place) {
        if (place < 0) {
            return outOfBounds();
        }
        return place < pairs() ? allPairs().get(place) : NONE;
    }

    // ---- the graph

    int edge(int dot, int other) {
        if (dot < 0 || dot > 5 || other < 0 || other > 5) {
            return outOfBounds();
        }
        if (dot == other) {
            return illegal();
        }
        edges[Math.min(dot, other)][Math.max(dot, other)] ^= true;
        return allEdges().size();
    }

    private List<int[]> allEdges() {
        List<int[]> all = new ArrayList<>();
        for (int dot = 0; dot < 6; dot++) {
            for (int other = 0; other < 6; other++) {
                if (edges[dot][other]) {
                    all.add(new int[] {dot, other});
                }
            }
        }
        return all;
    }

    private String key(int colours) {
        StringBuilder key = new StringBuilder().append(colours);
        allEdges().forEach(e -> key.append(' ').append(e[0]).append(e[1]));
        return key.toString();
    }

    int colourings(int colours) {
        return colours < 0 || colours > 6 ? illegal() : known.computeIfAbsent(key(colours), k -> countColourings(colours));
    }

    int colouringsAnew(int colours) {
        return colourings(colours);
    }

    private int countColourings(int colours) {
        int all = (int) Math.pow(colours, 6);
        int found = 0;
        for (int number = 0; number < all; number++) {
            int[] given = new int[6];
            for (int dot = 0, rest = number; dot < 6; dot++, rest /= colours) {
                given[dot] = rest % colours;
            }
            found += allFit(given) ? 1 : 0;
        }
        return found;
    }

    private boolean allFit(int[] given) {
        for (int dot = 0; dot < 6; dot++) {
            for (int other = dot + 1; other < 6; other++) {
                if (edges[dot][other] && given[dot] == given[other]) {
                    return false;
                }
            }
        }
        return true;
    }

    int directions() {
        return known.computeIfAbsent(key(-1), k -> countDirections(allEdges()));
    }

    int directionsAnew() {
        return directions();
    }

    private static int countDirections(List<int[]> all) {
        int found = 0;
        for (int ways = 0; ways < 1 << all.size(); ways++) {
            int[] into = new int[6];
            for (int i = 0; i < all.size(); i++) {
                int way = ways >> i & 1;
                into[all.get(i)[1 - way]] |= 1 << all.get(i)[way];
            }
            found += endsWithoutRing(into) ? 1 : 0;
        }
        return found;
    }

    /** Takes off DOTS to which nothing leads any more; a ring never comes off. */
    private static boolean endsWithoutRing(int[] into) {
        int left = 63;
        for (int round = 0; round < 6; round++) {
            for (int dot = 0; dot < 6; dot++) {
                if ((into[dot] & left) == 0) {
                    left &= ~(1 << dot);
                }
            }
        }
        return left == 0;
    }
}
