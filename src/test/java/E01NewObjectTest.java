/** Promise 1 at its edges: "No VEHICLES", and what is told "at first". */
public final class E01NewObjectTest {
    private static final int NONE = FerryDeck.NONE, BAD = FerryDeck.BAD, NO = FerryDeck.NO;

    public static void main(String[] args) {
        Check check = new Check();
        Edge edge = new Edge(check);
        noVehicles(edge);
        lanesAreWithoutLengthAndBearing(edge);
        emptyDeck(edge);
        seasonAndTillAtFirst(check, edge);
        traceIsEmpty(edge);
        busySceneIsAsItSays(check);
        check.finish();
    }

    /** "No VEHICLES": not even 0. */
    private static void noVehicles(Edge edge) {
        edge.tells("count(0)", Edge::untouched, d -> d.count(0), 0);
        for (int what = 0; what < 6; what++) {
            int asked = what;
            edge.refused("ask(0, " + what + ", 0)", Edge::untouched, d -> d.ask(0, asked, 0), BAD);
        }
        for (int what = 0; what < 7; what++) {
            int told = what;
            edge.refused("told(0, " + what + ")", Edge::untouched, d -> d.told(0, told), BAD);
        }
        edge.refused("board(0, 0)", Edge::untouched, d -> d.board(0, 0), BAD);
        edge.refused("back(0)", Edge::untouched, d -> d.back(0), BAD);
        edge.allowed("vehicle(0, 10, 0)", Edge::untouched, d -> d.vehicle(0, 10, 0), 0);
    }

    /** "LENGTH .. and BEARING .., 0 both at first": none can stand there. */
    private static void lanesAreWithoutLengthAndBearing(Edge edge) {
        for (int lane = 0; lane < 4; lane++) {
            int l = lane;
            edge.tells("deck(" + l + ", 0)", Edge::untouched, d -> d.deck(l, 0), 0);
            edge.tells("deck(" + l + ", 1)", Edge::untouched, d -> d.deck(l, 1), 0);
            edge.refused("board(0, " + l + ")", d -> d.vehicle(0, 10, 0), d -> d.board(0, l), FerryDeck.FULL);
        }
    }

    private static void emptyDeck(Edge edge) {
        for (int lane = 0; lane < 4; lane++) {
            int l = lane;
            edge.tells("deck(" + l + ", 2)", Edge::untouched, d -> d.deck(l, 2), 0);
            edge.tells("deck(" + l + ", 3)", Edge::untouched, d -> d.deck(l, 3), 0);
            edge.tells("deck(" + l + ", 4)", Edge::untouched, d -> d.deck(l, 4), NONE);
            edge.tells("deck(" + l + ", 5)", Edge::untouched, d -> d.deck(l, 5), NONE);
            edge.refused("off(" + l + ")", Edge::untouched, d -> d.off(l), NO);
        }
        edge.refused("sail()", Edge::untouched, d -> d.sail(), NO);
        for (int what = 1; what < 5; what++) {
            int counted = what;
            edge.tells("count(" + what + ")", Edge::untouched, d -> d.count(counted), 0);
        }
    }

    /** "SEASON is 0 at first", and nothing has been paid. */
    private static void seasonAndTillAtFirst(Check check, Edge edge) {
        edge.tells("count(5)", Edge::untouched, d -> d.count(5), 0);
        edge.tells("till()", Edge::untouched, d -> d.till(), 0);
        check.due("season(3)", new FerryDeck().season(3), 0);
    }

    private static void traceIsEmpty(Edge edge) {
        int[] numbers = {0, 1, 9, 10, -1, Edge.LEAST, Edge.MOST};
        for (int i : numbers) {
            edge.tells("trace(" + i + ")", Edge::untouched, d -> d.trace(i), NONE);
        }
    }

    /** The scene behind which other tests refuse calls must hold what they count on. */
    private static void busySceneIsAsItSays(Check check) {
        FerryDeck deck = new FerryDeck();
        Edge.busy(deck);
        int[] counts = {Edge.BUSY_VEHICLES, 6, 6, 2, 1, 1};
        for (int what = 0; what < 6; what++) {
            check.due("busy count(" + what + ")", deck.count(what), counts[what]);
        }
        check.trace("busy", deck, Edge.BUSY_TRACE);
        check.due("busy back", deck.told(Edge.BUSY_BACK, 1), 0);
        check.due("busy back paid", deck.told(Edge.BUSY_BACK, 4) > 0 ? 1 : 0, 1);
        check.due("busy waits", deck.told(Edge.BUSY_WAITS, 1), 0);
        check.due("busy first", deck.deck(0, 4), Edge.BUSY_FIRST);
        check.due("busy last", deck.deck(0, 5), Edge.BUSY_LAST);
        check.due("busy standing", deck.deck(0, 2), 3);
        check.due("busy abroad", deck.told(Edge.BUSY_ABROAD, 1), 2);
        check.due("busy abroad", deck.told(Edge.BUSY_ABROAD_TOO, 1), 2);
        check.due("busy empty lane", deck.deck(3, 2), 0);
    }
}
