/** All that an object tells of its state, as a text. */
final class Snapshot {
    private Snapshot() {
    }

    static String of(Chamberwright x) {
        StringBuilder text = new StringBuilder();
        text.append(x.polynomial(0)).append(' ').append(x.polynomial(1)).append(' ').append(x.points(31));
        text.append("; meets");
        for (int meet = 0; meet < x.meets(); meet++) {
            for (int what = 0; what < 4; what++) {
                text.append(' ').append(x.meet(meet, what));
            }
        }
        text.append("; rooms");
        for (int room = 0; room < x.rooms(); room++) {
            for (int what = 0; what < 4; what++) {
                text.append(' ').append(x.room(room, what));
            }
        }
        text.append("; pairs");
        for (int place = 0; place < x.pairs(); place++) {
            text.append(' ').append(x.pair(place));
        }
        text.append("; mirrors");
        for (int line = 0; line < -x.polynomial(1); line++) {
            for (int mirror = 0; mirror < -x.polynomial(1); mirror++) {
                text.append(' ').append(x.reflected(line, mirror));
            }
        }
        text.append("; graph");
        for (int colours = 0; colours < 7; colours++) {
            text.append(' ').append(x.colouringsAnew(colours));
        }
        return text.append(' ').append(x.directions()).append(edges(x)).toString();
    }

    /** Turns each EDGE and turns it back: the counts tell whether it was there. */
    private static String edges(Chamberwright x) {
        StringBuilder text = new StringBuilder("; edges");
        for (int dot = 0; dot < 6; dot++) {
            for (int other = dot + 1; other < 6; other++) {
                int turned = x.edge(dot, other);
                int back = x.edge(dot, other);
                text.append(turned < back ? " 1" : " 0");
            }
        }
        return text.toString();
    }
}
