/** Promise 13 at its edges: which what, from none to all 60. */
public final class E13CountTest {
    public static void main(String[] args) {
        Check check = new Check();
        Edge edge = new Edge(check);
        whatZeroToFive(edge);
        fromNoneToAll(check);
        refusedSailingsAreNotCounted(check);
        check.finish();
    }

    /** "0 VEHICLES .. 5 the SEASON": each only tells. */
    private static void whatZeroToFive(Edge edge) {
        int[] due = {Edge.BUSY_VEHICLES, 6, 6, 2, 1, 1};
        for (int what = 0; what < 6; what++) {
            int told = what;
            edge.tells("count(" + what + ")", Edge::busy, d -> d.count(told), due[what]);
        }
        for (int what : Edge.beside(0, 5)) {
            edge.refused("count(" + what + ")", Edge::busy, d -> d.count(what), FerryDeck.BAD);
            edge.refused("count(" + what + ") at first", Edge::untouched, d -> d.count(what), FerryDeck.BAD);
        }
    }

    private static void counts(Check check, String name, FerryDeck deck, int... due) {
        for (int what = 0; what < due.length; what++) {
            check.due(name + ", count(" + what + ")", deck.count(what), due[what]);
        }
    }

    private static void fromNoneToAll(Check check) {
        FerryDeck deck = new FerryDeck();
        Edge.wide(deck);
        counts(check, "none", deck, 0, 0, 0, 0, 0, 0);
        for (int i = 0; i < 60; i++) {
            deck.vehicle(i % 3, 10, 0);
        }
        counts(check, "all wait", deck, 60, 60, 0, 0, 0, 0);
        deck.vehicle(0, 10, 0);
        counts(check, "behind FULL", deck, 60, 60, 0, 0, 0, 0);
        for (int i = 0; i < 59; i++) {
            deck.board(i, i % 4);
        }
        counts(check, "all but one on deck", deck, 60, 1, 59, 0, 0, 0);
        deck.board(59, 3);
        counts(check, "all on deck", deck, 60, 0, 60, 0, 0, 0);
        deck.off(3);
        counts(check, "one off", deck, 60, 1, 59, 0, 0, 0);
        deck.board(59, 0);
        deck.season(3);
        deck.sail();
        counts(check, "all abroad", deck, 60, 0, 0, 60, 1, 3);
        for (int i = 0; i < 59; i++) {
            deck.back(i);
        }
        counts(check, "all but one back", deck, 60, 59, 0, 1, 1, 3);
        deck.back(59);
        counts(check, "all back", deck, 60, 60, 0, 0, 1, 3);
    }

    /** "how often it SAILED". */
    private static void refusedSailingsAreNotCounted(Check check) {
        FerryDeck deck = new FerryDeck();
        Edge.wide(deck);
        deck.vehicle(Edge.CAR, 10, 28801);
        deck.sail();
        counts(check, "empty", deck, 1, 1, 0, 0, 0, 0);
        deck.board(0, 0);
        deck.sail();
        counts(check, "too much apart", deck, 1, 0, 1, 0, 0, 0);
        deck.vehicle(Edge.CAR, 10, 0);
        deck.board(1, 3);
        deck.sail();
        counts(check, "sailed", deck, 2, 0, 0, 2, 1, 0);
        deck.sail();
        counts(check, "empty again", deck, 2, 0, 0, 2, 1, 0);
    }
}
