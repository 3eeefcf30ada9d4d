/** Promise 5 at its edges: the lanes 0 to 3, the limits of length and bearing, a lane in which some stand. */
public final class E05LaneTest {
    private static final int BAD = FerryDeck.BAD, NO = FerryDeck.NO, NONE = FerryDeck.NONE;

    public static void main(String[] args) {
        Check check = new Check();
        Edge edge = new Edge(check);
        lanesZeroToThree(check, edge);
        lengthZeroToTwoThousand(check, edge);
        bearingZeroToTwoHundredThousand(check, edge);
        severalWrongNumbers(edge);
        someStandInIt(edge);
        badAheadOfNo(edge);
        noneStandInItAnyMore(check, edge);
        onlyThatLane(check, edge);
        check.finish();
    }

    private static String call(int lane, int length, int bearing) {
        return "lane(" + lane + ", " + length + ", " + bearing + ")";
    }

    private static void bad(Edge edge, int lane, int length, int bearing) {
        edge.refused(call(lane, length, bearing), Edge::untouched, d -> d.lane(lane, length, bearing), BAD);
        edge.refused(call(lane, length, bearing) + " busy", Edge::busy, d -> d.lane(lane, length, bearing), BAD);
    }

    private static void good(Check check, Edge edge, int lane, int length, int bearing) {
        String name = call(lane, length, bearing);
        FerryDeck deck = edge.allowed(name, Edge::wide, d -> d.lane(lane, length, bearing), 1);
        left(check, name, deck, lane, length, bearing);
        FerryDeck fresh = edge.allowed(name, Edge::untouched, d -> d.lane(lane, length, bearing), 1);
        left(check, name, fresh, lane, length, bearing);
    }

    private static void left(Check check, String name, FerryDeck deck, int lane, int length, int bearing) {
        check.due(name + ", length left", deck.deck(lane, 0), length);
        check.due(name + ", bearing left", deck.deck(lane, 1), bearing);
        check.due(name + ", standing", deck.deck(lane, 2), 0);
        check.due(name + ", first", deck.deck(lane, 4), NONE);
    }

    /** "LANES 0 .. 3". */
    private static void lanesZeroToThree(Check check, Edge edge) {
        for (int lane = 0; lane < 4; lane++) {
            good(check, edge, lane, 300 + lane, 4000 + lane);
        }
        for (int lane : Edge.beside(0, 3)) {
            bad(edge, lane, 300, 4000);
            bad(edge, lane, 0, 0);
        }
    }

    /** "LENGTH (0 .. 2000 decimetres)". */
    private static void lengthZeroToTwoThousand(Check check, Edge edge) {
        int[] allowed = {0, 1, 1999, 2000};
        for (int length : allowed) {
            good(check, edge, 0, length, 0);
            good(check, edge, 3, length, 200000);
        }
        for (int length : Edge.beside(0, 2000)) {
            bad(edge, 3, length, 0);
            bad(edge, 3, length, 200000);
        }
    }

    /** "BEARING (0 .. 200000 kilograms)". */
    private static void bearingZeroToTwoHundredThousand(Check check, Edge edge) {
        int[] allowed = {0, 1, 199999, 200000};
        for (int bearing : allowed) {
            good(check, edge, 1, 0, bearing);
            good(check, edge, 2, 2000, bearing);
        }
        for (int bearing : Edge.beside(0, 200000)) {
            bad(edge, 3, 0, bearing);
            bad(edge, 3, 2000, bearing);
        }
    }

    private static void severalWrongNumbers(Edge edge) {
        bad(edge, -1, -1, -1);
        bad(edge, 4, 2001, 200001);
        bad(edge, 3, -1, 200001);
        bad(edge, 3, 2001, -1);
        bad(edge, Edge.LEAST, Edge.LEAST, Edge.LEAST);
        bad(edge, Edge.MOST, Edge.MOST, Edge.MOST);
    }

    private static void oneStands(FerryDeck deck) {
        deck.lane(2, 15, 1200);
        deck.vehicle(0, 10, 0);
        deck.board(0, 2);
        deck.ask(0, 2, 0);
    }

    /** "NO: some stand in it": one is enough, and so it is when nothing would change or more room be made. */
    private static void someStandInIt(Edge edge) {
        int[][] rooms = {{0, 0}, {15, 1200}, {16, 1201}, {2000, 200000}};
        for (int[] r : rooms) {
            edge.refused(call(2, r[0], r[1]) + " with one", E05LaneTest::oneStands, d -> d.lane(2, r[0], r[1]), NO);
            for (int lane = 0; lane < 3; lane++) {
                int l = lane;
                edge.refused(call(l, r[0], r[1]) + " busy", Edge::busy, d -> d.lane(l, r[0], r[1]), NO);
            }
        }
    }

    /** "the first of these that fits: BAD .., NO". */
    private static void badAheadOfNo(Edge edge) {
        int[][] wrong = {{-1, 0}, {2001, 0}, {0, -1}, {0, 200001}, {Edge.LEAST, 0}, {0, Edge.MOST}};
        for (int[] w : wrong) {
            edge.refused(call(2, w[0], w[1]) + " with one", E05LaneTest::oneStands, d -> d.lane(2, w[0], w[1]), BAD);
        }
    }

    private static void noneStandInItAnyMore(Check check, Edge edge) {
        Edge.Scene off = d -> {
            oneStands(d);
            d.off(2);
        };
        FerryDeck deck = edge.allowed("lane(2, 0, 0) behind off", off, d -> d.lane(2, 0, 0), 1);
        left(check, "behind off", deck, 2, 0, 0);
        Edge.Scene sailed = d -> {
            oneStands(d);
            d.sail();
        };
        deck = edge.allowed("lane(2, 2000, 200000) behind sail", sailed, d -> d.lane(2, 2000, 200000), 1);
        left(check, "behind sail", deck, 2, 2000, 200000);
        check.due("still abroad", deck.told(0, 1), 2);
        Edge.Scene oneLeft = d -> {
            Edge.busy(d);
            d.off(0);
            d.off(0);
        };
        edge.refused("lane(0, 1, 1) with the first alone", oneLeft, d -> d.lane(0, 1, 1), NO);
    }

    private static void onlyThatLane(Check check, Edge edge) {
        for (int lane = 0; lane < 4; lane++) {
            int changed = lane;
            FerryDeck deck = edge.allowed(call(lane, 7, 8), Edge::wide, d -> d.lane(changed, 7, 8), 1);
            for (int other = 0; other < 4; other++) {
                boolean same = other == lane;
                check.due("length of " + other, deck.deck(other, 0), same ? 7 : 2000);
                check.due("bearing of " + other, deck.deck(other, 1), same ? 8 : 200000);
            }
        }
        FerryDeck deck = edge.allowed("lane(3, 5, 6) busy", Edge::busy, d -> d.lane(3, 5, 6), 1);
        check.due("those on deck stay", deck.count(2), 6);
        check.trace("lane() leaves the trace", deck, Edge.BUSY_TRACE);
    }
}
