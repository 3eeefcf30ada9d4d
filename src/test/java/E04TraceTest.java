/** Promise 4 at its edges: the first and the last number of each trace, NONE beside them, and who leaves it alone. */
public final class E04TraceTest {
    private static final int NONE = FerryDeck.NONE;

    /** By kind, then by what: vehicles of any size and load. */
    private static final int[][][] TRACES = {
        {{1}, {11}, {21, 1}, {31, 1}, {}, {}},
        {{1}, {12, 11}, {21, 1}, {32, 31, 1}, {}, {}},
        {{2, 1}, {12, 11}, {21, 2, 1}, {32, 31, 2, 1}, {41, 12, 11}, {}},
        {{2, 1}, {13, 12, 11}, {21, 2, 1}, {33, 32, 31, 2, 1}, {42, 13, 12, 11}, {51, 21, 2, 1}},
        {{3, 2, 1}, {13, 12, 11}, {22, 21, 3, 2, 1}, {34, 33, 32, 31, 3, 2, 1, 13, 12, 11},
            {42, 13, 12, 11}, {51, 22, 21, 3, 2, 1}},
        {{1}, {11}, {21, 1}, {31, 1}, {}, {51, 21, 1}},
        {{4, 1}, {14, 11}, {21, 4, 1}, {35, 31, 4, 1}, {41, 14, 11}, {52, 4, 1}},
    };

    public static void main(String[] args) {
        Check check = new Check();
        Edge edge = new Edge(check);
        firstLastAndBeside(check);
        noneBesideTheLongest(edge);
        noneBesideTheShortestAndTheEmpty(edge);
        latestAskThatWasNotBad(check);
        noOtherCallLeavesAnything(check);
        refusedOtherCallsLeaveIt(check);
        check.finish();
    }

    private static void firstLastAndBeside(Check check) {
        int[][] made = {{10, 0}, {200, 40000}};
        for (int kind = 0; kind < 7; kind++) {
            for (int what = 0; what < 6; what++) {
                for (int[] m : made) {
                    FerryDeck deck = new FerryDeck();
                    deck.vehicle(kind, m[0], m[1]);
                    deck.ask(0, what, 3);
                    check.trace("ask " + what + " of kind " + kind, deck, TRACES[kind][what]);
                }
            }
        }
    }

    /** "Number i of THE TRACE ..; NONE": 0 to 9 of a train's fare. */
    private static void noneBesideTheLongest(Edge edge) {
        edge.tells("trace(0)", Edge::busy, d -> d.trace(0), 34);
        edge.tells("trace(9)", Edge::busy, d -> d.trace(9), 11);
        for (int i : Edge.beside(0, 9)) {
            edge.tells("trace(" + i + ")", Edge::busy, d -> d.trace(i), NONE);
        }
    }

    private static void noneBesideTheShortestAndTheEmpty(Edge edge) {
        Edge.Scene shortest = d -> {
            Edge.busy(d);
            d.ask(0, 0, 0);
        };
        edge.tells("trace(0) of one", shortest, d -> d.trace(0), 1);
        for (int i : Edge.beside(0, 0)) {
            edge.tells("trace(" + i + ") of one", shortest, d -> d.trace(i), NONE);
        }
        Edge.Scene empty = d -> {
            Edge.busy(d);
            d.ask(0, 4, 0);
        };
        int[] numbers = {0, 1, 9, 10, -1, Edge.LEAST, Edge.MOST};
        for (int i : numbers) {
            edge.tells("trace(" + i + ") of none", empty, d -> d.trace(i), NONE);
        }
    }

    /** "of the latest ask() that was not BAD". */
    private static void latestAskThatWasNotBad(Check check) {
        FerryDeck deck = new FerryDeck();
        check.due("BAD as the first ask", deck.ask(0, 0, 0), FerryDeck.BAD);
        check.trace("BAD as the first ask", deck);
        deck.vehicle(6, 50, 0);
        deck.vehicle(1, 50, 0);
        deck.ask(0, 3, 3);
        check.trace("fare of a coach", deck, 35, 31, 4, 1);
        int[][] bad = {{2, 0, 0}, {-1, 0, 0}, {1, -1, 0}, {1, 6, 0}, {1, 3, -1}, {1, 3, 4}, {2, 4, 0}, {-1, 5, 0}};
        for (int[] b : bad) {
            check.due("a BAD ask", deck.ask(b[0], b[1], b[2]), FerryDeck.BAD);
            check.trace("ask " + b[0] + " " + b[1] + " " + b[2], deck, 35, 31, 4, 1);
        }
        deck.ask(1, 3, 0);
        check.trace("fare of a van", deck, 32, 31, 1);
        deck.ask(1, 4, 0);
        check.trace("NO", deck);
    }

    /** "(No other call leaves anything there.)": in an empty trace, and in one that something is in. */
    private static void noOtherCallLeavesAnything(Check check) {
        othersLeave(check, d -> { });
        othersLeave(check, d -> d.ask(0, 0, 0), 3, 2, 1);
        othersLeave(check, d -> d.ask(3, 4, 0));
    }

    private static void othersLeave(Check check, Edge.Scene asked, int... due) {
        FerryDeck deck = new FerryDeck();
        Edge.wide(deck);
        deck.vehicle(4, 50, 500);
        deck.vehicle(6, 50, 500);
        deck.vehicle(3, 50, 500);
        deck.vehicle(0, 50, 500);
        asked.play(deck);
        Edge.Call[] calls = {
            d -> d.vehicle(4, 10, 0), d -> d.lane(3, 900, 90000), d -> d.season(2), d -> d.board(0, 0),
            d -> d.board(2, 0), d -> d.board(1, 2), d -> d.off(0), d -> d.told(0, 4), d -> d.told(1, 5),
            d -> d.told(1, 6), d -> d.deck(0, 3), d -> d.count(2), d -> d.till(), d -> d.trace(0), d -> d.sail(),
            d -> d.back(0),
        };
        for (int i = 0; i < calls.length; i++) {
            check.due("call " + i + " is not refused", calls[i].on(deck) < FerryDeck.NONE ? 1 : 0, 0);
            check.trace("call " + i, deck, due);
        }
    }

    private static void refusedOtherCallsLeaveIt(Check check) {
        FerryDeck deck = new FerryDeck();
        Edge.busy(deck);
        Edge.Call[] calls = {
            d -> d.vehicle(7, 10, 0), d -> d.lane(0, 1, 1), d -> d.lane(4, 1, 1), d -> d.season(4),
            d -> d.board(Edge.BUSY_LAST, 0), d -> d.board(4, 3), d -> d.board(-1, 0), d -> d.off(3), d -> d.off(4),
            d -> d.back(Edge.BUSY_LAST), d -> d.back(99), d -> d.told(0, 7), d -> d.deck(0, 6), d -> d.count(6),
        };
        for (int i = 0; i < calls.length; i++) {
            check.due("call " + i + " is refused", calls[i].on(deck) < FerryDeck.NONE ? 1 : 0, 1);
            check.trace("refused call " + i, deck, Edge.BUSY_TRACE);
        }
    }
}
