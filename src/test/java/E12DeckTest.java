/** Promise 12 at its edges: which lane, which what, NONE of an empty lane, what is left down to 0. */
public final class E12DeckTest {
    private static final int BAD = FerryDeck.BAD, NONE = FerryDeck.NONE;

    public static void main(String[] args) {
        Check check = new Check();
        Edge edge = new Edge(check);
        lanesZeroToThree(edge);
        whatZeroToFive(edge);
        emptyLane(check);
        oneIsFirstAndLast(check);
        nothingIsLeft(check);
        check.finish();
    }

    private static void lane(Check check, String name, FerryDeck deck, int lane, int... due) {
        for (int what = 0; what < due.length; what++) {
            check.due(name + ", deck(" + lane + ", " + what + ")", deck.deck(lane, what), due[what]);
        }
    }

    /** "LANES 0 .. 3". */
    private static void lanesZeroToThree(Edge edge) {
        for (int lane : Edge.beside(0, 3)) {
            for (int what = 0; what < 6; what++) {
                int told = what;
                edge.refused("deck(" + lane + ", " + what + ")", Edge::busy, d -> d.deck(lane, told), BAD);
            }
        }
    }

    /** "0 its LENGTH that is LEFT .. 5 the last (NONE)": each only tells. */
    private static void whatZeroToFive(Edge edge) {
        int[][] due = {
            {2000 - 65 - 75 - 65, 200000 - 1900 - 2700 - 2700, 3, 6, 7, 8},
            {700 - 75, 90000 - 2875, 1, 2, 10, 10},
            {1500 - 70 - 115, 150000 - 10900 - 6700, 2, 5, 13, 5},
            {0, 0, 0, 0, NONE, NONE},
        };
        for (int lane = 0; lane < 4; lane++) {
            for (int what = 0; what < 6; what++) {
                int l = lane;
                int told = what;
                edge.tells("deck(" + l + ", " + what + ")", Edge::busy, d -> d.deck(l, told), due[lane][what]);
            }
            for (int what : Edge.beside(0, 5)) {
                int l = lane;
                edge.refused("deck(" + l + ", " + what + ")", Edge::busy, d -> d.deck(l, what), BAD);
            }
        }
        edge.refused("deck(4, 6)", Edge::busy, d -> d.deck(4, 6), BAD);
        edge.refused("deck(-1, -1)", Edge::busy, d -> d.deck(-1, -1), BAD);
    }

    /** An empty lane: at first, behind off, behind sailing. */
    private static void emptyLane(Check check) {
        for (int lane = 0; lane < 4; lane++) {
            FerryDeck deck = new FerryDeck();
            lane(check, "at first", deck, lane, 0, 0, 0, 0, NONE, NONE);
            deck.lane(lane, 30, 3000);
            deck.vehicle(Edge.CAR, 10, 0);
            deck.vehicle(Edge.CAR, 10, 0);
            lane(check, "behind lane()", deck, lane, 30, 3000, 0, 0, NONE, NONE);
            deck.board(0, lane);
            deck.off(lane);
            lane(check, "behind off", deck, lane, 30, 3000, 0, 0, NONE, NONE);
            deck.board(0, lane);
            deck.board(1, lane);
            lane(check, "of two", deck, lane, 0, 600, 2, 2, 0, 1);
            deck.sail();
            lane(check, "behind sail", deck, lane, 30, 3000, 0, 0, NONE, NONE);
        }
    }

    private static void oneIsFirstAndLast(Check check) {
        FerryDeck deck = new FerryDeck();
        Edge.wide(deck);
        for (int i = 0; i < 3; i++) {
            deck.vehicle(Edge.CAR, 10, 0);
        }
        deck.board(2, 1);
        lane(check, "one", deck, 1, 1985, 198800, 1, 1, 2, 2);
        deck.board(0, 1);
        lane(check, "two", deck, 1, 1970, 197600, 2, 2, 2, 0);
        deck.board(1, 1);
        lane(check, "three", deck, 1, 1955, 196400, 3, 3, 2, 1);
        deck.off(1);
        deck.off(1);
        lane(check, "one again", deck, 1, 1985, 198800, 1, 1, 2, 2);
        deck.off(1);
        deck.board(0, 1);
        lane(check, "another", deck, 1, 1985, 198800, 1, 1, 0, 0);
    }

    /** What is left goes down to 0, and not below. */
    private static void nothingIsLeft(Check check) {
        FerryDeck deck = new FerryDeck();
        deck.lane(0, 45, 3600);
        for (int i = 0; i < 4; i++) {
            deck.vehicle(Edge.CAR, 10, 0);
            deck.board(i, 0);
        }
        lane(check, "full", deck, 0, 0, 0, 3, 3, 0, 2);
    }
}
