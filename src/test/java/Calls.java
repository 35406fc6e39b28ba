/** The 25 calls of the face by numbers, in the document's order, asked of the program or of the second house. */
final class Calls {
    static final int KINDS = 25;
    static final String[] NAMES = {"line", "takeAway", "meets", "meet", "polynomial", "polynomialAnew", "points",
        "rooms", "bounded", "room", "roomOf", "corner", "galleries", "gallery", "project", "best", "reflected",
        "isKaleidoscope", "pairs", "pair", "edge", "colourings", "colouringsAnew", "directions", "directionsAnew"};

    private interface Answer {
        int get();
    }

    private Calls() {
    }

    static String name(int call, int p, int q, int r) {
        return NAMES[call] + "(" + p + ", " + q + ", " + r + ")";
    }

    /** The answer as a text, or the name of the exception; arguments that the call does not take are left out. */
    static String program(Chamberwright x, int call, int p, int q, int r) {
        return answer(() -> ofProgram(x, call, p, q, r));
    }

    static String model(Model model, int call, int p, int q, int r) {
        return answer(() -> ofModel(model, call, p, q, r));
    }

    private static String answer(Answer call) {
        try {
            return Integer.toString(call.get());
        } catch (RuntimeException e) {
            return e.getClass().getName();
        }
    }

    private static int ofProgram(Chamberwright x, int call, int p, int q, int r) {
        return switch (call) {
            case 0 -> x.line(p, q, r);
            case 1 -> x.takeAway(p);
            case 2 -> x.meets();
            case 3 -> x.meet(p, q);
            case 4 -> x.polynomial(p);
            case 5 -> x.polynomialAnew(p);
            case 6 -> x.points(p);
            case 7 -> x.rooms();
            case 8 -> x.bounded();
            case 9 -> x.room(p, q);
            case 10 -> x.roomOf(p);
            case 11 -> x.corner(p, q);
            case 12 -> x.galleries(p, q);
            case 13 -> x.gallery(p, q, r);
            case 14 -> x.project(p, q);
            case 15 -> x.best(p, q, r);
            case 16 -> x.reflected(p, q);
            case 17 -> x.isKaleidoscope() ? 1 : 0;
            case 18 -> x.pairs();
            case 19 -> x.pair(p);
            case 20 -> x.edge(p, q);
            case 21 -> x.colourings(p);
            case 22 -> x.colouringsAnew(p);
            case 23 -> x.directions();
            default -> x.directionsAnew();
        };
    }

    private static int ofModel(Model model, int call, int p, int q, int r) {
        return switch (call) {
            case 0 -> model.line(p, q, r);
            case 1 -> model.takeAway(p);
            case 2 -> model.meets();
            case 3 -> model.meet(p, q);
            case 4 -> model.polynomial(p);
            case 5 -> model.polynomialAnew(p);
            case 6 -> model.points(p);
            case 7 -> model.rooms();
            case 8 -> model.bounded();
            case 9 -> model.room(p, q);
            case 10 -> model.roomOf(p);
            case 11 -> model.corner(p, q);
            case 12 -> model.galleries(p, q);
            case 13 -> model.gallery(p, q, r);
            case 14 -> model.project(p, q);
            case 15 -> model.best(p, q, r);
            case 16 -> model.reflected(p, q);
            case 17 -> model.isKaleidoscope() ? 1 : 0;
            case 18 -> model.pairs();
            case 19 -> model.pair(p);
            case 20 -> model.edge(p, q);
            case 21 -> model.colourings(p);
            case 22 -> model.colouringsAnew(p);
            case 23 -> model.directions();
            default -> model.directionsAnew();
        };
    }
}
