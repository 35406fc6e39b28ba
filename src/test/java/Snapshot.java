/**
 * All that an object tells of its state, as a text. An object is promised to answer 512 calls: so each answer is
 * asked for once, and none that follows from others; that of a full house takes some 450 calls.
 */
final class Snapshot {
    private static final int[] DIVISORS = {2, 3, 5, 7, 31};

    private Snapshot() {
    }

    /** Leaves the object as it is. */
    static String of(Chamberwright x) {
        int lines = -x.polynomial(1);
        StringBuilder text = new StringBuilder("lines ").append(lines).append("; points");
        // Only over a prime that divides a whole telling two tellings of one LINE count unlike points.
        for (int prime : DIVISORS) {
            text.append(' ').append(x.points(prime));
        }
        tellMeets(x, text);
        tellRooms(x, text);
        tellPairs(x, text);
        text.append("; mirrors");
        for (int line = 0; line < lines; line++) {
            for (int mirror = 0; mirror < lines; mirror++) {
                text.append(' ').append(x.reflected(line, mirror));
            }
        }
        tellGraph(x, text);
        return text.toString();
    }

    /**
     * For an object that is not used any more: also draws two LINES across its own. The new ROOMS tell which side
     * of each LINE is above, which those of a single LINE do not.
     */
    static String last(Chamberwright x) {
        StringBuilder text = new StringBuilder(of(x)).append("; with two more");
        for (int lines = -x.polynomial(1); lines > 7; lines--) {
            x.takeAway(0);
        }
        x.line(7, -5, 3);
        x.line(8, 9, -4);
        tellRooms(x, text);
        return text.toString();
    }

    private static void tellMeets(Chamberwright x, StringBuilder text) {
        int meets = x.meets();
        text.append("; meets");
        for (int meet = 0; meet < meets; meet++) {
            for (int what = 0; what < 4; what++) {
                text.append(' ').append(x.meet(meet, what));
            }
        }
    }

    private static void tellRooms(Chamberwright x, StringBuilder text) {
        int rooms = x.rooms();
        text.append("; rooms");
        for (int room = 0; room < rooms; room++) {
            text.append(' ').append(x.room(room, 0));
        }
        text.append("; bounded ").append(x.bounded());
    }

    private static void tellPairs(Chamberwright x, StringBuilder text) {
        int pairs = x.pairs();
        text.append("; pairs");
        for (int place = 0; place < pairs; place++) {
            text.append(' ').append(x.pair(place));
        }
    }

    private static void tellGraph(Chamberwright x, StringBuilder text) {
        text.append("; graph");
        for (int colours = 0; colours < 7; colours++) {
            text.append(' ').append(x.colouringsAnew(colours));
        }
        text.append(' ').append(x.directions()).append("; edges");
        // Turns each EDGE and turns it back: the counts tell whether it was there.
        for (int dot = 0; dot < 6; dot++) {
            for (int other = dot + 1; other < 6; other++) {
                int turned = x.edge(dot, other);
                int back = x.edge(dot, other);
                text.append(turned < back ? " 1" : " 0");
            }
        }
    }
}
