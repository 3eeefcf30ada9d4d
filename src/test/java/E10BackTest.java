/** Promise 10 at its edges: which vehicle, and one that is not abroad. */
public final class E10BackTest {
    private static final int BAD = FerryDeck.BAD, NO = FerryDeck.NO, NONE = FerryDeck.NONE;

    public static void main(String[] args) {
        Check check = new Check();
        Edge edge = new Edge(check);
        vehicleZeroToTheLast(check, edge);
        notAbroad(edge);
        waitsAgain(check, edge);
        onlyThatOne(check);
        check.finish();
    }

    private static void allSailed(FerryDeck deck) {
        Edge.wide(deck);
        for (int i = 0; i < 60; i++) {
            deck.vehicle(Edge.CAR, 10, 0);
            deck.board(i, i % 4);
        }
        deck.sail();
    }

    /** "BAD": "no such one". */
    private static void vehicleZeroToTheLast(Check check, Edge edge) {
        FerryDeck deck = edge.allowed("back(0)", E10BackTest::allSailed, d -> d.back(0), 1);
        check.due("told(0, 1)", deck.told(0, 1), 0);
        deck = edge.allowed("back(59)", E10BackTest::allSailed, d -> d.back(59), 1);
        check.due("told(59, 1)", deck.told(59, 1), 0);
        check.due("count(3)", deck.count(3), 59);
        int[] beyond = {-1, 60, 61, Edge.LEAST, Edge.MOST};
        for (int vehicle : beyond) {
            edge.refused("back(" + vehicle + ") of sixty", E10BackTest::allSailed, d -> d.back(vehicle), BAD);
        }
        for (int vehicle : Edge.beside(0, Edge.BUSY_VEHICLES - 1)) {
            edge.refused("back(" + vehicle + ") busy", Edge::busy, d -> d.back(vehicle), BAD);
        }
    }

    /** "NO: it is not ABROAD": it waits, it is back, it is on deck, it went off. */
    private static void notAbroad(Edge edge) {
        int[] vehicles = {Edge.BUSY_WAITS, Edge.BUSY_BACK, Edge.BUSY_FIRST, Edge.BUSY_LAST, 13};
        for (int vehicle : vehicles) {
            edge.refused("back(" + vehicle + ") busy", Edge::busy, d -> d.back(vehicle), NO);
        }
        Edge.Scene off = d -> {
            Edge.busy(d);
            d.off(0);
        };
        edge.refused("back of one that went off", off, d -> d.back(Edge.BUSY_LAST), NO);
        Edge.Scene twice = d -> {
            Edge.busy(d);
            d.back(Edge.BUSY_ABROAD);
        };
        edge.refused("back a second time", twice, d -> d.back(Edge.BUSY_ABROAD), NO);
    }

    /** "One that is ABROAD WAITS again: 1". */
    private static void waitsAgain(Check check, Edge edge) {
        FerryDeck deck = edge.allowed("back(0)", Edge::busy, d -> d.back(Edge.BUSY_ABROAD), 1);
        // 500 and 60 times 12 as it boarded in season 2
        int[] due = {Edge.CAR, 0, NONE, NONE, 1220, 0, 0};
        for (int what = 0; what < 7; what++) {
            check.due("told(0, " + what + ")", deck.told(Edge.BUSY_ABROAD, what), due[what]);
        }
        check.trace("back() leaves the trace", deck, Edge.BUSY_TRACE);
        check.due("board(0, 0) in season 1", deck.board(Edge.BUSY_ABROAD, 0), 1160);
        check.due("told(0, 4)", deck.told(Edge.BUSY_ABROAD, 4), 1160);
        check.due("off(0)", deck.off(0), 1160);
        check.due("told(0, 4) behind off", deck.told(Edge.BUSY_ABROAD, 4), 0);
    }

    private static void onlyThatOne(Check check) {
        FerryDeck deck = new FerryDeck();
        Edge.busy(deck);
        long till = deck.till();
        deck.back(Edge.BUSY_ABROAD);
        check.due("the other abroad", deck.told(Edge.BUSY_ABROAD_TOO, 1), 2);
        check.due("count(1)", deck.count(1), 7);
        check.due("count(2)", deck.count(2), 6);
        check.due("count(3)", deck.count(3), 1);
        check.due("count(4)", deck.count(4), 1);
        check.due("till()", deck.till(), till);
    }
}
