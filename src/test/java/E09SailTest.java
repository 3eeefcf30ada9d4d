import java.util.Arrays;

/** Promise 9 at its edges: an empty deck, 30000 kilograms apart, the lane that needs most. */
public final class E09SailTest {
    private static final int NO = FerryDeck.NO, NONE = FerryDeck.NONE;

    public static void main(String[] args) {
        Check check = new Check();
        Edge edge = new Edge(check);
        emptyDeck(edge);
        oneIsEnough(check);
        apartByOneLane(check, edge);
        apartByTwoLanes(check, edge);
        apartWithBothSidesLoaded(check, edge);
        lanesOfOneSideMayBeApart(check, edge);
        farApart(check, edge);
        theLaneThatNeedsMost(check);
        allOnDeckAreAbroad(check);
        lanesAreEmptyAndStay(check);
        othersStayAsTheyAre(check);
        check.finish();
    }

    /** "NO: the DECK is empty": no vehicles, none boarded, all off, all sailed, all back. */
    private static void emptyDeck(Edge edge) {
        Edge.Scene waiting = d -> {
            Edge.wide(d);
            d.vehicle(Edge.CAR, 10, 0);
            d.vehicle(Edge.TRAIN, 10, 0);
            d.ask(1, 3, 0);
        };
        Edge.Scene off = d -> {
            waiting.play(d);
            d.board(0, 1);
            d.off(1);
        };
        Edge.Scene sailed = d -> {
            waiting.play(d);
            d.board(0, 1);
            d.board(1, 2);
            d.sail();
        };
        Edge.Scene back = d -> {
            sailed.play(d);
            d.back(0);
        };
        edge.refused("sail() of a new one", Edge::untouched, d -> d.sail(), NO);
        edge.refused("sail() with lanes alone", Edge::wide, d -> d.sail(), NO);
        edge.refused("sail() with waiting ones", waiting, d -> d.sail(), NO);
        edge.refused("sail() when all are off", off, d -> d.sail(), NO);
        edge.refused("sail() when all are abroad", sailed, d -> d.sail(), NO);
        edge.refused("sail() when one is back", back, d -> d.sail(), NO);
    }

    /** One on deck, in any lane, of the least minutes: 1, and 30. */
    private static void oneIsEnough(Check check) {
        for (int lane = 0; lane < 4; lane++) {
            FerryDeck deck = new FerryDeck();
            deck.lane(lane, 15, 1200);
            deck.vehicle(Edge.CAR, 10, 0);
            deck.board(0, lane);
            check.due("sail() with one in lane " + lane, deck.sail(), 31);
            check.due("count(4)", deck.count(4), 1);
        }
    }

    /** Cars of these masses, each in the lane of that number (0: none there). */
    private static Edge.Scene carried(int... masses) {
        return d -> {
            Edge.wide(d);
            int made = 0;
            for (int lane = 0; lane < 4; lane++) {
                int left = masses[lane];
                while (left > 0) {
                    int mass = left > 41200 ? Math.min(40000, left - 1200) : left;
                    d.vehicle(Edge.CAR, 10, mass - 1200);
                    d.board(made, lane);
                    made++;
                    left -= mass;
                }
            }
            d.vehicle(Edge.TRAIN, 20, 0);
            d.ask(made, 3, 2);
        };
    }

    private static void carriedAsMeant(Check check, String name, int... masses) {
        FerryDeck deck = new FerryDeck();
        carried(masses).play(deck);
        for (int lane = 0; lane < 4; lane++) {
            check.due(name + ", carried by " + lane, 200000 - deck.deck(lane, 1), masses[lane]);
        }
    }

    private static void sails(Check check, Edge edge, int minutes, int... masses) {
        String name = "sail() with " + Arrays.toString(masses);
        carriedAsMeant(check, name, masses);
        FerryDeck sailing = edge.allowed(name, carried(masses), d -> d.sail(), minutes);
        check.due(name + ", sailed", sailing.count(4), 1);
        check.due(name + ", on deck", sailing.count(2), 0);
    }

    private static void stays(Check check, Edge edge, int... masses) {
        String name = "sail() with " + Arrays.toString(masses);
        carriedAsMeant(check, name, masses);
        edge.refused(name, carried(masses), d -> d.sail(), NO);
    }

    /** "may not be more than 30000 kilograms apart", on both sides. */
    private static void apartByOneLane(Check check, Edge edge) {
        for (int lane = 0; lane < 4; lane++) {
            int[] allowed = new int[4];
            allowed[lane] = 30000;
            sails(check, edge, 31, allowed);
            int[] tooMuch = new int[4];
            tooMuch[lane] = 30001;
            stays(check, edge, tooMuch);
        }
    }

    /** "what the LANES 0 and 1 carry and what 2 and 3 carry": together. */
    private static void apartByTwoLanes(Check check, Edge edge) {
        sails(check, edge, 31, 15000, 15000, 0, 0);
        stays(check, edge, 15000, 15001, 0, 0);
        stays(check, edge, 15001, 15000, 0, 0);
        sails(check, edge, 31, 0, 0, 15000, 15000);
        stays(check, edge, 0, 0, 15000, 15001);
        stays(check, edge, 0, 0, 15001, 15000);
    }

    private static void apartWithBothSidesLoaded(Check check, Edge edge) {
        sails(check, edge, 31, 35000, 35000, 20000, 20000);
        stays(check, edge, 35001, 35000, 20000, 20000);
        stays(check, edge, 35000, 35000, 20000, 19999);
        sails(check, edge, 31, 20000, 20000, 35000, 35000);
        stays(check, edge, 20000, 20000, 35000, 35001);
        stays(check, edge, 20000, 19999, 35000, 35000);
        sails(check, edge, 31, 31200, 0, 0, 1200);
        stays(check, edge, 31201, 0, 0, 1200);
        sails(check, edge, 31, 0, 1200, 31200, 0);
        stays(check, edge, 0, 1200, 31201, 0);
    }

    /** Only the sides are compared: lanes of one side, or across, may be further apart. */
    private static void lanesOfOneSideMayBeApart(Check check, Edge edge) {
        sails(check, edge, 31, 40000, 0, 40000, 0);
        sails(check, edge, 31, 40000, 0, 0, 40000);
        sails(check, edge, 31, 0, 40000, 40000, 0);
        sails(check, edge, 31, 0, 40000, 0, 40000);
        sails(check, edge, 32, 80000, 0, 40000, 40000);
    }

    private static void farApart(Check check, Edge edge) {
        stays(check, edge, 200000, 200000, 0, 0);
        stays(check, edge, 0, 0, 200000, 200000);
        sails(check, edge, 35, 200000, 200000, 200000, 200000);
        sails(check, edge, 35, 200000, 200000, 200000, 170000);
        stays(check, edge, 200000, 200000, 200000, 169999);
    }

    /** "as many MINUTES as the LANE that needs most (its VEHICLES' MINUTES together), and 30". */
    private static void theLaneThatNeedsMost(Check check) {
        for (int lane = 0; lane < 4; lane++) {
            FerryDeck deck = new FerryDeck();
            Edge.wide(deck);
            int made = 0;
            for (int other = 0; other < 4; other++) {
                // 2 minutes each: two in every lane, three in the one that needs most
                int many = other == lane ? 3 : 2;
                for (int i = 0; i < many; i++) {
                    deck.vehicle(Edge.CAR, 50, 0);
                    deck.board(made, other);
                    made++;
                }
            }
            check.due("sail() with most in lane " + lane, deck.sail(), 36);
        }
        FerryDeck even = new FerryDeck();
        Edge.wide(even);
        for (int lane = 0; lane < 4; lane++) {
            even.vehicle(Edge.TRAIN, 200, 0);
            even.board(lane, lane);
        }
        check.due("sail() with as much in each", even.sail(), 45);
        FerryDeck offAgain = new FerryDeck();
        Edge.wide(offAgain);
        offAgain.vehicle(Edge.CAR, 10, 0);
        offAgain.vehicle(Edge.TRAIN, 200, 0);
        offAgain.board(0, 0);
        offAgain.board(1, 0);
        offAgain.off(0);
        check.due("sail() when the longest went off", offAgain.sail(), 31);
    }

    /** "Then all on DECK are ABROAD". */
    private static void allOnDeckAreAbroad(Check check) {
        FerryDeck deck = new FerryDeck();
        Edge.busy(deck);
        int[] onDeck = {5, 7, 8, 9, 10, 13};
        int[] paid = new int[onDeck.length];
        for (int i = 0; i < onDeck.length; i++) {
            check.due("told(" + onDeck[i] + ", 1)", deck.told(onDeck[i], 1), 1);
            paid[i] = deck.told(onDeck[i], 4);
        }
        // a car, a truck and a van of 2 minutes each in lane 0
        check.due("sail()", deck.sail(), 36);
        for (int i = 0; i < onDeck.length; i++) {
            check.due("how", deck.told(onDeck[i], 1), 2);
            check.due("lane", deck.told(onDeck[i], 2), NONE);
            check.due("ahead", deck.told(onDeck[i], 3), NONE);
            check.due("paid", deck.told(onDeck[i], 4), paid[i]);
        }
        check.due("count(2)", deck.count(2), 0);
        check.due("count(3)", deck.count(3), 8);
        check.due("sail() again", deck.sail(), NO);
    }

    /** "LANES are empty (their LENGTHS, BEARINGS stay)". */
    private static void lanesAreEmptyAndStay(Check check) {
        FerryDeck deck = new FerryDeck();
        Edge.busy(deck);
        deck.sail();
        int[][] due = {{2000, 200000}, {700, 90000}, {1500, 150000}, {0, 0}};
        for (int lane = 0; lane < 4; lane++) {
            check.due("length left", deck.deck(lane, 0), due[lane][0]);
            check.due("bearing left", deck.deck(lane, 1), due[lane][1]);
            check.due("standing", deck.deck(lane, 2), 0);
            check.due("minutes", deck.deck(lane, 3), 0);
            check.due("first", deck.deck(lane, 4), NONE);
            check.due("last", deck.deck(lane, 5), NONE);
        }
    }

    /** Those that wait, those abroad, the season, the till and the trace. */
    private static void othersStayAsTheyAre(Check check) {
        FerryDeck deck = new FerryDeck();
        Edge.busy(deck);
        long till = deck.till();
        deck.sail();
        check.due("till()", deck.till(), till);
        check.due("count(0)", deck.count(0), Edge.BUSY_VEHICLES);
        check.due("count(1)", deck.count(1), 6);
        check.due("count(4)", deck.count(4), 2);
        check.due("count(5)", deck.count(5), 1);
        check.due("waits", deck.told(Edge.BUSY_WAITS, 1), 0);
        check.due("back", deck.told(Edge.BUSY_BACK, 1), 0);
        check.due("abroad", deck.told(Edge.BUSY_ABROAD, 1), 2);
        check.trace("sail() leaves the trace", deck, Edge.BUSY_TRACE);
    }
}
