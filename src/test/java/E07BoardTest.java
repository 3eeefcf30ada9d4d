/** Promise 7 at its edges: one that waits, what is left, the dangers, and which refusal fits first. */
public final class E07BoardTest {
    private static final int BAD = FerryDeck.BAD, NO = FerryDeck.NO, FULL = FerryDeck.FULL, NEAR = FerryDeck.NEAR;
    private static final int NONE = FerryDeck.NONE;

    public static void main(String[] args) {
        Check check = new Check();
        Edge edge = new Edge(check);
        vehicleZeroToTheLast(edge);
        lanesZeroToThree(check, edge);
        oneThatWaits(check, edge);
        lengthAndFive(check, edge);
        massOfWhatIsLeft(check, edge);
        leftBehindOthers(check, edge);
        largestLaneFilledByLength(check, edge);
        largestLaneFilledByMass(check, edge);
        leftIsWholeAgain(check);
        dangersOfFiveTogether(check, edge);
        onlyIfBothAreMarked(check);
        onlyTheLastOneThere(check, edge);
        onlyThatLane(check);
        paysInTheSeason(check);
        firstThatFits(edge);
        refusedWhenBackAgain(edge);
        check.finish();
    }

    private static void refused(Edge edge, String name, Edge.Scene scene, int vehicle, int lane, int due) {
        edge.refused("board(" + vehicle + ", " + lane + ") " + name, scene, d -> d.board(vehicle, lane), due);
    }

    /** "BAD": "no such one". */
    private static void vehicleZeroToTheLast(Edge edge) {
        Edge.Scene two = d -> {
            Edge.wide(d);
            d.vehicle(Edge.CAR, 10, 0);
            d.vehicle(Edge.VAN, 10, 0);
        };
        edge.allowed("board(0, 0)", two, d -> d.board(0, 0), 600);
        edge.allowed("board(1, 0)", two, d -> d.board(1, 0), 600);
        for (int vehicle : Edge.beside(0, 1)) {
            refused(edge, "of two", two, vehicle, 0, BAD);
        }
        for (int vehicle : Edge.beside(0, Edge.BUSY_VEHICLES - 1)) {
            refused(edge, "busy", Edge::busy, vehicle, 3, BAD);
        }
        refused(edge, "busy", Edge::busy, -1, -1, BAD);
        refused(edge, "busy", Edge::busy, Edge.BUSY_VEHICLES, 4, BAD);
        Edge.Scene sixty = d -> {
            Edge.wide(d);
            for (int i = 0; i < 60; i++) {
                d.vehicle(Edge.CAR, 10, 0);
            }
        };
        edge.allowed("board(59, 3)", sixty, d -> d.board(59, 3), 600);
        refused(edge, "of sixty", sixty, 60, 3, BAD);
    }

    /** "LANES 0 .. 3". */
    private static void lanesZeroToThree(Check check, Edge edge) {
        Edge.Scene one = d -> {
            Edge.wide(d);
            d.vehicle(Edge.CAR, 10, 0);
        };
        for (int lane = 0; lane < 4; lane++) {
            int l = lane;
            FerryDeck deck = edge.allowed("board(0, " + l + ")", one, d -> d.board(0, l), 600);
            check.due("its lane", deck.told(0, 2), l);
            for (int other = 0; other < 4; other++) {
                check.due("standing in " + other, deck.deck(other, 2), other == l ? 1 : 0);
                check.due("last in " + other, deck.deck(other, 5), other == l ? 0 : NONE);
            }
        }
        for (int lane : Edge.beside(0, 3)) {
            refused(edge, "of one", one, 0, lane, BAD);
            refused(edge, "busy", Edge::busy, Edge.BUSY_WAITS, lane, BAD);
        }
    }

    /** "TO BOARD one that WAITS", "NO: it does not WAIT". */
    private static void oneThatWaits(Check check, Edge edge) {
        FerryDeck deck = edge.allowed("one that waits", Edge::busy, d -> d.board(Edge.BUSY_WAITS, 0), 1510 + 22);
        check.due("how it is", deck.told(Edge.BUSY_WAITS, 1), 1);
        check.trace("board() leaves the trace", deck, Edge.BUSY_TRACE);
        edge.allowed("one that waits again", Edge::busy, d -> d.board(Edge.BUSY_BACK, 0), 1688 + 83);
        for (int lane = 0; lane < 3; lane++) {
            refused(edge, "first on deck", Edge::busy, Edge.BUSY_FIRST, lane, NO);
            refused(edge, "last on deck", Edge::busy, Edge.BUSY_LAST, lane, NO);
            refused(edge, "abroad", Edge::busy, Edge.BUSY_ABROAD, lane, NO);
            refused(edge, "abroad", Edge::busy, Edge.BUSY_ABROAD_TOO, lane, NO);
        }
        Edge.Scene off = d -> {
            Edge.busy(d);
            d.off(0);
        };
        edge.allowed("one that went off", off, d -> d.board(Edge.BUSY_LAST, 0), 1180);
    }

    private static final int[] SIZES = {10, 200};
    private static final int[][] LENGTHS = {{10, 10, 20, 20, 40, 10, 15}, {200, 200, 210, 210, 420, 200, 205}};
    private static final int[] LOADS = {0, 40000};
    private static final int[][] MASSES = {
        {1200, 2000, 2000, 2000, 2000, 1200, 10200}, {41200, 42000, 42000, 52000, 52000, 41200, 50200},
    };

    private static Edge.Scene room(int kind, int size, int load, int lane, int length, int bearing) {
        return d -> {
            d.lane(lane, length, bearing);
            d.vehicle(kind, size, load);
        };
    }

    /** What it pays in season 0, by another deck. */
    private static int price(int kind, int size, int load) {
        FerryDeck deck = new FerryDeck();
        deck.vehicle(kind, size, load);
        return deck.ask(0, 3, 0) + (deck.told(0, 5) == 1 ? deck.ask(0, 4, 0) : 0);
    }

    /** "it takes its LENGTH and 5": just so much left, and 1 less, for the shortest and the longest of each kind. */
    private static void lengthAndFive(Check check, Edge edge) {
        for (int kind = 0; kind < 7; kind++) {
            for (int i = 0; i < 2; i++) {
                int takes = LENGTHS[i][kind] + 5;
                int size = SIZES[i];
                int lane = (kind + i) % 4;
                String name = "kind " + kind + " of size " + size + " with length left ";
                FerryDeck deck = edge.allowed(name + takes, room(kind, size, 0, lane, takes, 200000),
                        d -> d.board(0, lane), price(kind, size, 0));
                check.due(name + takes + ", left behind it", deck.deck(lane, 0), 0);
                refused(edge, name + (takes - 1), room(kind, size, 0, lane, takes - 1, 200000), 0, lane, FULL);
                refused(edge, name + "0", room(kind, size, 0, lane, 0, 200000), 0, lane, FULL);
            }
        }
    }

    /** "and its MASS of what is LEFT there": just so much left, and 1 less, for the lightest and the heaviest. */
    private static void massOfWhatIsLeft(Check check, Edge edge) {
        for (int kind = 0; kind < 7; kind++) {
            for (int i = 0; i < 2; i++) {
                int takes = MASSES[i][kind];
                int load = LOADS[i];
                int lane = (kind + i) % 4;
                String name = "kind " + kind + " with load " + load + " with bearing left ";
                FerryDeck deck = edge.allowed(name + takes, room(kind, 10, load, lane, 2000, takes),
                        d -> d.board(0, lane), price(kind, 10, load));
                check.due(name + takes + ", left behind it", deck.deck(lane, 1), 0);
                refused(edge, name + (takes - 1), room(kind, 10, load, lane, 2000, takes - 1), 0, lane, FULL);
                refused(edge, name + "0", room(kind, 10, load, lane, 2000, 0), 0, lane, FULL);
            }
        }
    }

    /** A lane in which 15 and 1200 are left behind two others. */
    private static void twoStand(FerryDeck deck) {
        deck.lane(1, 100, 5000);
        deck.vehicle(Edge.CAR, 40, 0);
        deck.vehicle(Edge.CAR, 35, 1400);
        deck.vehicle(Edge.CAR, 10, 0);
        deck.vehicle(Edge.CAR, 11, 0);
        deck.vehicle(Edge.CAR, 10, 1);
        deck.vehicle(Edge.CAR, 11, 1);
        deck.board(0, 1);
        deck.board(1, 1);
        deck.ask(1, 0, 0);
    }

    /** "FULL: there is not so much LEFT": by length alone, by mass alone, by both. */
    private static void leftBehindOthers(Check check, Edge edge) {
        FerryDeck deck = edge.allowed("just what is left", E07BoardTest::twoStand, d -> d.board(2, 1), 600);
        check.due("length left", deck.deck(1, 0), 0);
        check.due("bearing left", deck.deck(1, 1), 0);
        check.due("ahead of it", deck.told(2, 3), 2);
        refused(edge, "too long by 1", E07BoardTest::twoStand, 3, 1, FULL);
        refused(edge, "too heavy by 1", E07BoardTest::twoStand, 4, 1, FULL);
        refused(edge, "too long and too heavy", E07BoardTest::twoStand, 5, 1, FULL);
        refused(edge, "in a lane of none", E07BoardTest::twoStand, 2, 0, FULL);
        Edge.Scene noneLeft = d -> {
            twoStand(d);
            d.board(2, 1);
            d.vehicle(Edge.CAR, 10, 0);
        };
        refused(edge, "none left", noneLeft, 6, 1, FULL);
    }

    private static Edge.Scene inLaneTwo(int many, int size, int load) {
        return d -> {
            Edge.wide(d);
            for (int i = 0; i < many; i++) {
                d.vehicle(Edge.CAR, size, load);
                d.board(i, 2);
            }
            d.vehicle(Edge.CAR, size, load);
            d.vehicle(Edge.CAR, 10, 0);
        };
    }

    private static void largestLaneFilledByLength(Check check, Edge edge) {
        FerryDeck deck = edge.allowed("the tenth of 200", inLaneTwo(9, 195, 0), d -> d.board(9, 2), 2450);
        check.due("length left", deck.deck(2, 0), 0);
        check.due("bearing left", deck.deck(2, 1), 188000);
        refused(edge, "the eleventh of 200", inLaneTwo(10, 195, 0), 10, 2, FULL);
        refused(edge, "the shortest as the eleventh", inLaneTwo(10, 195, 0), 11, 2, FULL);
        edge.allowed("the shortest as the tenth", inLaneTwo(9, 195, 0), d -> d.board(10, 2), 600);
    }

    private static void largestLaneFilledByMass(Check check, Edge edge) {
        FerryDeck deck = edge.allowed("the fifth of 40000", inLaneTwo(4, 10, 38800), d -> d.board(4, 2), 600);
        check.due("bearing left", deck.deck(2, 1), 0);
        check.due("length left", deck.deck(2, 0), 1925);
        refused(edge, "the sixth of 40000", inLaneTwo(5, 10, 38800), 5, 2, FULL);
        refused(edge, "the lightest as the sixth", inLaneTwo(5, 10, 38800), 6, 2, FULL);
        edge.allowed("the lightest as the fifth", inLaneTwo(4, 10, 38800), d -> d.board(5, 2), 600);
    }

    /** What one took is left again behind off and behind sailing. */
    private static void leftIsWholeAgain(Check check) {
        FerryDeck deck = new FerryDeck();
        deck.lane(0, 15, 1200);
        deck.vehicle(Edge.CAR, 10, 0);
        deck.vehicle(Edge.CAR, 10, 0);
        check.due("board(0, 0)", deck.board(0, 0), 600);
        check.due("board(1, 0)", deck.board(1, 0), FULL);
        deck.off(0);
        check.due("board(1, 0) behind off", deck.board(1, 0), 600);
        check.due("board(0, 0)", deck.board(0, 0), FULL);
        deck.sail();
        check.due("board(0, 0) behind sail", deck.board(0, 0), 600);
        deck.back(1);
        check.due("board(1, 0) back", deck.board(1, 0), FULL);
    }

    /** Kind, size and danger: each danger that a kind can have, at the sizes beside its steps. */
    private static final int[][] MARKED = {
        {Edge.TANKER, 139, 1}, {Edge.TANKER, 140, 2}, {Edge.TANKER, 200, 2},
        {Edge.TRAIN, 14, 2}, {Edge.TRAIN, 15, 3}, {Edge.TRAIN, 114, 3}, {Edge.TRAIN, 115, 4}, {Edge.TRAIN, 200, 4},
        {Edge.CAMPER, 149, 1}, {Edge.CAMPER, 150, 2}, {Edge.CAMPER, 200, 2},
        {Edge.COACH, 94, 2}, {Edge.COACH, 95, 3}, {Edge.COACH, 194, 3}, {Edge.COACH, 195, 4}, {Edge.COACH, 200, 4},
    };

    /** "their DANGERS must be 5 or less together", "NEAR: by DANGERS". */
    private static void dangersOfFiveTogether(Check check, Edge edge) {
        for (int[] ahead : MARKED) {
            for (int[] behind : MARKED) {
                Edge.Scene scene = d -> {
                    Edge.wide(d);
                    d.vehicle(ahead[0], ahead[1], 0);
                    d.vehicle(behind[0], behind[1], 0);
                    d.board(0, 3);
                    d.ask(0, 5, 0);
                };
                String name = "kind " + behind[0] + " of size " + behind[1] + " behind kind " + ahead[0]
                        + " of size " + ahead[1];
                if (ahead[2] + behind[2] <= 5) {
                    FerryDeck deck = edge.allowed(name, scene, d -> d.board(1, 3), price(behind[0], behind[1], 0));
                    check.due(name + " stands there", deck.deck(3, 5), 1);
                } else {
                    refused(edge, name, scene, 1, 3, NEAR);
                }
            }
        }
    }

    /** "if it and the last one there are both MARKED". */
    private static void onlyIfBothAreMarked(Check check) {
        int[] plain = {Edge.CAR, Edge.VAN, Edge.TRUCK};
        int[] dangerous = {Edge.TRAIN, Edge.COACH};
        for (int p : plain) {
            for (int m : dangerous) {
                String name = "kinds " + p + ", " + m;
                FerryDeck deck = new FerryDeck();
                Edge.wide(deck);
                deck.vehicle(p, 200, 0);
                deck.vehicle(m, 200, 0);
                deck.vehicle(p, 200, 0);
                deck.vehicle(p, 200, 0);
                check.due(name + " ahead", deck.board(0, 0), price(p, 200, 0));
                check.due(name + " marked behind", deck.board(1, 0), price(m, 200, 0));
                check.due(name + " behind the marked", deck.board(2, 0), price(p, 200, 0));
                check.due(name + " both not marked", deck.board(3, 0), price(p, 200, 0));
            }
        }
    }

    private static void trainTruckTrain(FerryDeck deck) {
        Edge.wide(deck);
        deck.vehicle(Edge.TRAIN, 115, 0);
        deck.vehicle(Edge.TRUCK, 100, 0);
        deck.vehicle(Edge.TRAIN, 115, 0);
        deck.vehicle(Edge.COACH, 94, 0);
        deck.vehicle(Edge.CAMPER, 10, 0);
        deck.board(0, 0);
        deck.board(1, 0);
    }

    /** "the last one there": not those ahead of it, and the one ahead again when the last went off. */
    private static void onlyTheLastOneThere(Check check, Edge edge) {
        int train = price(Edge.TRAIN, 115, 0);
        FerryDeck deck = edge.allowed("a train behind a truck", E07BoardTest::trainTruckTrain, d -> d.board(2, 0), train);
        check.due("a coach of 2 behind a train of 4", deck.board(3, 0), NEAR);
        check.due("a camper of 1 behind a train of 4", deck.board(4, 0), 600);
        check.due("a coach of 2 behind a camper of 1", deck.board(3, 0), price(Edge.COACH, 94, 0));
        Edge.Scene truckOff = d -> {
            trainTruckTrain(d);
            d.off(0);
        };
        refused(edge, "a train behind a train when the truck is off", truckOff, 2, 0, NEAR);
        refused(edge, "a coach behind a train when the truck is off", truckOff, 3, 0, NEAR);
        edge.allowed("a camper then", truckOff, d -> d.board(4, 0), 600);
        Edge.Scene bothOff = d -> {
            truckOff.play(d);
            d.off(0);
        };
        edge.allowed("a train in the empty lane", bothOff, d -> d.board(2, 0), train);
        Edge.Scene sailed = d -> {
            truckOff.play(d);
            d.sail();
        };
        edge.allowed("a train where one sailed", sailed, d -> d.board(2, 0), train);
    }

    private static void onlyThatLane(Check check) {
        FerryDeck deck = new FerryDeck();
        Edge.wide(deck);
        int train = price(Edge.TRAIN, 200, 0);
        for (int lane = 0; lane < 4; lane++) {
            deck.vehicle(Edge.TRAIN, 200, 0);
            check.due("a train alone in lane " + lane, deck.board(lane, lane), train);
        }
        deck.vehicle(Edge.TRAIN, 200, 0);
        for (int lane = 0; lane < 4; lane++) {
            check.due("a train behind that of lane " + lane, deck.board(4, lane), NEAR);
        }
        check.due("till()", deck.till(), 4L * train);
    }

    /** "It PAYS its FARE in the SEASON and, if it is HEAVY, its TOLL: to the TILL": in the first and last season. */
    private static void paysInTheSeason(Check check) {
        int[][] due = {
            {600, 610, 620, 630}, {600, 630, 660, 690}, {710, 750, 790, 830}, {1720, 1800, 1880, 1960},
            {2140, 2260, 2380, 2500}, {600, 610, 620, 630}, {636, 650, 663, 677},
        };
        for (int kind = 0; kind < 7; kind++) {
            for (int s = 0; s < 4; s++) {
                FerryDeck deck = new FerryDeck();
                Edge.wide(deck);
                deck.vehicle(kind, 10, 0);
                deck.season(s);
                check.due("kind " + kind + " in season " + s, deck.board(0, 1), due[kind][s]);
                check.due("till()", deck.till(), due[kind][s]);
                check.due("told(0, 4)", deck.told(0, 4), due[kind][s]);
            }
        }
    }

    /**
     * Lane 0: a train of danger 4 and hardly anything left; lane 1: such a train, and much left; lane 2: nothing
     * left and none there. Vehicle 2 waits, is of danger 4; 3 is abroad, of danger 4.
     */
    private static void allAtOnce(FerryDeck deck) {
        deck.lane(0, 270, 200000);
        deck.lane(1, 2000, 200000);
        deck.lane(3, 2000, 200000);
        for (int i = 0; i < 4; i++) {
            deck.vehicle(Edge.TRAIN, 120, 0);
        }
        deck.board(3, 3);
        deck.sail();
        deck.board(0, 0);
        deck.board(1, 1);
        deck.ask(2, 3, 3);
    }

    /** "the first of these that fits: BAD .., NO .., FULL, NEAR". */
    private static void firstThatFits(Edge edge) {
        Edge.Scene scene = E07BoardTest::allAtOnce;
        int[] notWaiting = {0, 1, 3};
        for (int vehicle : notWaiting) {
            refused(edge, "BAD ahead of NO", scene, vehicle, -1, BAD);
            refused(edge, "BAD ahead of NO", scene, vehicle, 4, BAD);
            refused(edge, "NO ahead of FULL and NEAR", scene, vehicle, 0, NO);
            refused(edge, "NO ahead of NEAR", scene, vehicle, 1, NO);
            refused(edge, "NO ahead of FULL", scene, vehicle, 2, NO);
        }
        refused(edge, "BAD ahead of FULL and NEAR", scene, 4, 0, BAD);
        refused(edge, "BAD ahead of NEAR", scene, 4, 1, BAD);
        refused(edge, "BAD ahead of FULL", scene, -1, 2, BAD);
        refused(edge, "FULL ahead of NEAR", scene, 2, 0, FULL);
        refused(edge, "NEAR alone", scene, 2, 1, NEAR);
        refused(edge, "FULL alone", scene, 2, 2, FULL);
        Edge.Scene heavyAndNear = d -> {
            d.lane(0, 2000, 3999);
            d.vehicle(Edge.TRAIN, 120, 0);
            d.vehicle(Edge.TRAIN, 120, 0);
            d.board(0, 0);
        };
        refused(edge, "FULL by mass ahead of NEAR", heavyAndNear, 1, 0, FULL);
    }

    /** "then nothing changes": what one paid before it came back stays told behind each refusal. */
    private static void refusedWhenBackAgain(Edge edge) {
        Edge.Scene back = d -> {
            allAtOnce(d);
            d.back(3);
        };
        refused(edge, "back, BAD", back, 3, 4, BAD);
        refused(edge, "back, FULL and NEAR", back, 3, 0, FULL);
        refused(edge, "back, NEAR", back, 3, 1, NEAR);
        refused(edge, "back, FULL", back, 3, 2, FULL);
    }
}
