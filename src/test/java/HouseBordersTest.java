/** Houses at their borders: full, without MEETS, filled and emptied, used 512 times; all calls, with all arguments. */
public final class HouseBordersTest {
    private static final Check CHECK = new Check("HouseBordersTest");
    private static final int CALLS = 512;
    private static final int GREATEST = Integer.MAX_VALUE;
    private static final int LEAST = Integer.MIN_VALUE;
    private static final int[] OUTSIDE = {-1, LEAST, GREATEST};

    private HouseBordersTest() {
    }

    public static void main(String[] args) {
        CHECK.sentence("NONE = -1: None", HouseBordersTest::noneIsMinusOne);
        CHECK.sentence("a full house of 9 LINES in which any two have a MEET of their own",
                HouseBordersTest::nineThatCrossInPairs);
        CHECK.sentence("a full house without MEETS", HouseBordersTest::nineWithoutMeets);
        CHECK.sentence("the full graph of 15 EDGES", HouseBordersTest::allEdges);
        CHECK.sentence("a house that was filled and emptied again", HouseBordersTest::filledAndEmptied);
        CHECK.sentence("a house that was filled and emptied again, and is filled anew", HouseBordersTest::filledAgain);
        CHECK.sentence("A call of a method that throws an exception changes nothing",
                HouseBordersTest::refusedCallsInARow);
        CHECK.sentence("An object is used for at most 512 calls after it has been made",
                HouseBordersTest::theLastOf512Calls);
        CHECK.sentence("512 calls on one object, all of them the dearest one of its kind",
                HouseBordersTest::theDearestCalls512Times);
        CHECK.sentence("512 calls on one object, of which all but the last are refused",
                HouseBordersTest::refused511Times);
        CHECK.sentence("the least and the greatest of every range and the numbers beside them",
                HouseBordersTest::allArguments);
        CHECK.endsWell();
    }

    private static void noneIsMinusOne() {
        CHECK.same("NONE", Chamberwright.NONE, -1);
    }

    private static void nineThatCrossInPairs() {
        for (House house : new House[] {House.FULL, House.NINE_WALLS}) {
            Chamberwright x = house.anew();
            CHECK.same("MEETS, ROOMS, BOUNDED ones, pairs of " + house,
                    Check.row(x.meets(), x.rooms(), x.bounded(), x.pairs()), "36 46 28 36");
            CHECK.same("the polynomial of " + house, Check.row(x.polynomial(0), x.polynomialAnew(0)), "36 36");
            int corners = 0;
            int walls = 0;
            for (int room = 0; room < 46; room++) {
                corners += x.room(room, 3);
                walls += Integer.bitCount(x.room(room, 2));
            }
            CHECK.same("four ROOMS at each MEET of " + house, corners, 4 * 36);
            CHECK.same("two ROOMS at each of nine stretches of each LINE of " + house, walls, 2 * 9 * 9);
            for (int meet = 0; meet < 36; meet++) {
                CHECK.same("LINES through MEET " + meet + " of " + house, Integer.bitCount(x.meet(meet, 3)), 2);
            }
            CHECK.no(house + " as a KALEIDOSCOPE", x.isKaleidoscope());
        }
    }

    private static void nineWithoutMeets() {
        Chamberwright x = House.BESIDE.anew();
        CHECK.same("MEETS, ROOMS, BOUNDED ones, pairs",
                Check.row(x.meets(), x.rooms(), x.bounded(), x.pairs()), "0 10 0 0");
        CHECK.same("the polynomial", Check.row(x.polynomial(0), x.polynomialAnew(0), x.polynomial(1)), "0 0 -9");
        for (int room = 0; room < 10; room++) {
            int walls = room == 0 || room == 9 ? 1 : 2;
            CHECK.same("of ROOM " + room, Check.row(x.room(room, 1), Integer.bitCount(x.room(room, 2)), x.room(room, 3),
                    x.corner(room, 0), x.best(room, 1, 0), x.best(room, 0, 1)), "0 " + walls + " 0 -1 -1 -1");
            CHECK.same("to the other end from " + room, x.gallery(room, 9 - room, Math.abs(9 - 2 * room)), 9 - room);
            CHECK.same("how many ways there", x.galleries(room, 9 - room), 1);
        }
        CHECK.same("meet(0, 0)", Check.thrownBy(x, y -> y.meet(0, 0)), "IndexOutOfBoundsException");
        CHECK.same("project(0, 0)", Check.thrownBy(x, y -> y.project(0, 0)), "IndexOutOfBoundsException");
        CHECK.same("pair(0)", x.pair(0), -1);
        CHECK.same("LINE 1 in LINE 4", x.reflected(1, 4), 7);
    }

    private static void allEdges() {
        Chamberwright x = new Chamberwright();
        House.turn(x, House.allDots());
        for (int colours = 0; colours < 7; colours++) {
            CHECK.same("colours " + colours, Check.row(x.colourings(colours), x.colouringsAnew(colours)),
                    colours == 6 ? "720 720" : "0 0");
        }
        CHECK.same("directions", Check.row(x.directions(), x.directionsAnew()), "720 720");
        CHECK.same("one less, one more", Check.row(x.edge(5, 4), x.edge(4, 5)), "14 15");
        CHECK.same("LINES are not EDGES", Check.row(x.rooms(), x.pairs(), x.meets()), "1 0 0");
    }

    private static void filledAndEmptied() {
        String due = Snapshot.last(new Chamberwright());
        for (House house : House.values()) {
            Chamberwright first = house.anew();
            Chamberwright last = house.anew();
            for (int left = house.lines(); left > 0; left--) {
                first.takeAway(0);
                last.takeAway(left - 1);
            }
            House.turn(first, house.dots());
            House.turn(last, house.dots());
            CHECK.same(house + ", the first LINE away first", Snapshot.last(first), due);
            CHECK.same(house + ", the last LINE away first", Snapshot.last(last), due);
        }
        CHECK.same("the middle one away first", Snapshot.last(House.EMPTIED.anew()), due);
    }

    private static void filledAgain() {
        for (House house : House.values()) {
            Check.Made again = () -> {
                Chamberwright x = House.NINE_WALLS.anew();
                for (int left = 9; left > 0; left--) {
                    x.takeAway(0);
                }
                for (int line = 0; line < house.lines(); line++) {
                    x.line(house.telling(line)[0], house.telling(line)[1], house.telling(line)[2]);
                }
                return x;
            };
            Chamberwright once = House.NEW.anew();
            for (int line = 0; line < house.lines(); line++) {
                once.line(house.telling(line)[0], house.telling(line)[1], house.telling(line)[2]);
            }
            CHECK.same("filled with " + house, Snapshot.last(again.anew()), Snapshot.last(once));
        }
    }

    /** One after the other on one object: none of them leaves something behind that the next ones add to. */
    private static void refusedCallsInARow() {
        for (House house : House.values()) {
            for (int at = 0; at < 3; at++) {
                Chamberwright x = house.anew();
                int refused = 0;
                for (int call = 0; call < Calls.KINDS; call++) {
                    String got = Calls.program(x, call, GREATEST, OUTSIDE[at], OUTSIDE[2 - at]);
                    String due = Calls.model(house.model(), call, GREATEST, OUTSIDE[at], OUTSIDE[2 - at]);
                    CHECK.same(Calls.name(call, GREATEST, OUTSIDE[at], OUTSIDE[2 - at]) + " of " + house, got, due);
                    refused += got.startsWith("java.lang.") ? 1 : 0;
                }
                // All but the seven calls that take nothing, and pair, which answers NONE far out.
                CHECK.same("refused calls of " + house, refused, 17);
                CHECK.same("what is behind them", Snapshot.last(x), Snapshot.last(house.anew()));
            }
        }
    }

    // ---- 512 calls on one object

    /** Runs of 512 calls in which each kind of call is once the last one. */
    private static void theLastOf512Calls() {
        for (int offset = 0; offset < Calls.KINDS; offset++) {
            Chamberwright x = new Chamberwright();
            Model model = new Model();
            for (int at = 1; at <= CALLS; at++) {
                int call = (at - CALLS + offset + 21 * Calls.KINDS) % Calls.KINDS;
                int p = at % 19 - 9;
                int q = at * 7 % 19 - 9;
                int r = at * 3 % 19 - 9;
                if (call != 0 && call != 15) {
                    p = at / Calls.KINDS % 7;
                    q = at / 3 % 4;
                    r = at % 4;
                }
                // Fewer LINES go than come: so the house is often full at the end.
                int kind = call == 1 && at % 3 != 0 ? 0 : call;
                CHECK.same("call " + at + ", " + Calls.name(kind, p, q, r), Calls.program(x, kind, p, q, r),
                        Calls.model(model, kind, p, q, r));
            }
        }
    }

    private static void theDearestCalls512Times() {
        int made = House.FULL.lines() + House.FULL.edges();
        for (int call = 2; call < Calls.KINDS; call++) {
            if (call == 20) {
                continue;
            }
            int p = call == 6 ? 31 : call == 10 ? 511 : call >= 21 ? 6 : call <= 5 ? 0 : 8;
            String due = Calls.model(House.FULL.model(), call, p, 3, 4);
            Chamberwright x = House.FULL.anew();
            for (int at = made; at < CALLS; at++) {
                CHECK.same(Calls.name(call, p, 3, 4), Calls.program(x, call, p, 3, 4), due);
            }
        }
        for (int call = 0; call < Calls.KINDS; call++) {
            int p = call == 6 ? 31 : call == 20 ? 5 : call >= 21 ? 6 : 0;
            Chamberwright x = new Chamberwright();
            Model model = new Model();
            for (int at = 0; at < CALLS; at++) {
                CHECK.same(Calls.name(call, p, 1, 0), Calls.program(x, call, p, 1, 0),
                        Calls.model(model, call, p, 1, 0));
            }
        }
        Chamberwright y = House.FULL.without(0);
        for (int at = made - 1; at + 2 <= CALLS; at += 2) {
            CHECK.same("a ninth LINE", y.line(1, 0, -9), 8);
            CHECK.same("takes it away", y.takeAway(8), 8);
        }
    }

    private static void refused511Times() {
        for (int call = 0; call < Calls.KINDS; call++) {
            Chamberwright x = new Chamberwright();
            for (int at = 1; at < CALLS; at++) {
                Calls.program(x, call, LEAST, GREATEST, LEAST);
            }
            CHECK.same("a LINE behind 511 times " + Calls.NAMES[call], x.line(9, -9, 9), 0);
        }
    }

    // ---- all calls with all arguments, and with those beside them

    private static void allArguments() {
        for (House house : House.values()) {
            Stock stock = new Stock(house);
            Model model = house.model();
            int[] rooms = {-1, house.rooms};
            int[] meets = {-1, house.meets};
            int[] lines = {-1, house.lines()};
            for (int call : new int[] {2, 7, 8, 17, 18, 23, 24}) {
                sweep(stock, model, call);
            }
            sweep(stock, model, 3, meets, new int[] {-1, 4});
            sweep(stock, model, 4, new int[] {-1, 3});
            sweep(stock, model, 5, new int[] {-1, 3});
            sweep(stock, model, 6, new int[] {-1, 38});
            sweep(stock, model, 9, rooms, new int[] {-1, 4});
            sweep(stock, model, 10, new int[] {-1, 512});
            sweep(stock, model, 11, rooms, new int[] {-1, 10});
            sweep(stock, model, 12, rooms, rooms);
            for (int room = -1; room <= house.rooms; room += house.rooms > 30 ? 4 : 1) {
                sweep(stock, model, 13, new int[] {room, room}, rooms, new int[] {-1, 10});
            }
            sweep(stock, model, 14, rooms, meets);
            sweep(stock, model, 15, rooms, new int[] {-10, 10}, new int[] {-10, 10});
            sweep(stock, model, 16, lines, lines);
            sweep(stock, model, 19, new int[] {-1, 37});
            sweep(stock, model, 21, new int[] {-1, 7});
            sweep(stock, model, 22, new int[] {-1, 7});
        }
    }

    /** A range is told by its two ends; an argument without a range is 0. */
    private static void sweep(Stock stock, Model model, int call, int[]... ranges) {
        int[] p = ranges.length > 0 ? ranges[0] : new int[2];
        int[] q = ranges.length > 1 ? ranges[1] : new int[2];
        int[] r = ranges.length > 2 ? ranges[2] : new int[2];
        for (int one = p[0]; one <= p[1]; one++) {
            for (int two = q[0]; two <= q[1]; two++) {
                for (int three = r[0]; three <= r[1]; three++) {
                    CHECK.same(Calls.name(call, one, two, three), Calls.program(stock.x(), call, one, two, three),
                            Calls.model(model, call, one, two, three));
                }
            }
        }
    }
}
