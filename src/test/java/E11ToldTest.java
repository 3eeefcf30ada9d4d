/** Promise 11 at its edges: which vehicle, which what, NONE when not on deck, what it paid before and behind. */
public final class E11ToldTest {
    private static final int BAD = FerryDeck.BAD, NONE = FerryDeck.NONE;

    public static void main(String[] args) {
        Check check = new Check();
        Edge edge = new Edge(check);
        vehicleZeroToTheLast(check, edge);
        whatZeroToSix(edge);
        laneAndThoseAheadUnlessOnDeck(check);
        fromTheFirstToTheLastInALane(check);
        whatItPaidLatest(check);
        check.finish();
    }

    private static void told(Check check, String name, FerryDeck deck, int vehicle, int... due) {
        for (int what = 0; what < due.length; what++) {
            check.due(name + ", told(" + vehicle + ", " + what + ")", deck.told(vehicle, what), due[what]);
        }
    }

    /** "BAD": "no such one". */
    private static void vehicleZeroToTheLast(Check check, Edge edge) {
        for (int vehicle : Edge.beside(0, Edge.BUSY_VEHICLES - 1)) {
            for (int what = 0; what < 7; what++) {
                int told = what;
                edge.refused("told(" + vehicle + ", " + what + ")", Edge::busy, d -> d.told(vehicle, told), BAD);
            }
        }
        FerryDeck deck = new FerryDeck();
        for (int i = 0; i < 60; i++) {
            check.due("told of one that is yet to come", deck.told(i, 0), BAD);
            deck.vehicle(i % 7, 10, 0);
            check.due("told of the newest", deck.told(i, 0), i % 7);
        }
        check.due("told(60, 0)", deck.told(60, 0), BAD);
    }

    /** "0 KIND .. 6 MARKED": each only tells. */
    private static void whatZeroToSix(Edge edge) {
        int[] due = {Edge.COACH, 1, 2, 0, 1094 + 54, 1, 1};
        for (int what = 0; what < 7; what++) {
            int told = what;
            edge.tells("told(13, " + what + ")", Edge::busy, d -> d.told(13, told), due[what]);
        }
        for (int what : Edge.beside(0, 6)) {
            edge.refused("told(13, " + what + ")", Edge::busy, d -> d.told(13, what), BAD);
            edge.refused("told(0, " + what + ")", Edge::busy, d -> d.told(0, what), BAD);
            edge.refused("told(14, " + what + ")", Edge::busy, d -> d.told(Edge.BUSY_VEHICLES, what), BAD);
        }
    }

    /** "its LANE (NONE: not on DECK)", "how many stand ahead of it there (NONE)". */
    private static void laneAndThoseAheadUnlessOnDeck(Check check) {
        FerryDeck deck = new FerryDeck();
        Edge.wide(deck);
        deck.vehicle(Edge.VAN, 10, 0);
        told(check, "at first", deck, 0, 1, 0, NONE, NONE, 0, 0, 0);
        deck.board(0, 0);
        told(check, "on deck in lane 0", deck, 0, 1, 1, 0, 0, 600, 0, 0);
        deck.off(0);
        told(check, "off", deck, 0, 1, 0, NONE, NONE, 0, 0, 0);
        deck.board(0, 3);
        told(check, "on deck in lane 3", deck, 0, 1, 1, 3, 0, 600, 0, 0);
        deck.sail();
        told(check, "abroad", deck, 0, 1, 2, NONE, NONE, 600, 0, 0);
        deck.back(0);
        told(check, "back", deck, 0, 1, 0, NONE, NONE, 600, 0, 0);
    }

    private static void fromTheFirstToTheLastInALane(Check check) {
        FerryDeck deck = new FerryDeck();
        Edge.wide(deck);
        for (int i = 0; i < 60; i++) {
            deck.vehicle(Edge.CAR, 10, 0);
        }
        for (int i = 59; i >= 0; i--) {
            deck.board(i, 1);
        }
        for (int i = 0; i < 60; i++) {
            check.due("ahead of " + i, deck.told(i, 3), 59 - i);
        }
        deck.off(1);
        check.due("ahead of the one that went off", deck.told(0, 3), NONE);
        check.due("ahead of the last", deck.told(1, 3), 58);
        check.due("ahead of the first", deck.told(59, 3), 0);
        check.due("in another lane", deck.board(0, 2), 600);
        check.due("ahead of it there", deck.told(0, 3), 0);
    }

    /** "what it PAID as it BOARDED latest (0 before, and behind OFF)": a refused boarding is none. */
    private static void whatItPaidLatest(Check check) {
        FerryDeck deck = new FerryDeck();
        deck.lane(0, 15, 2000);
        deck.vehicle(Edge.VAN, 10, 0);
        check.due("before", deck.told(0, 4), 0);
        check.due("board(0, 1)", deck.board(0, 1), FerryDeck.FULL);
        check.due("behind FULL", deck.told(0, 4), 0);
        deck.board(0, 0);
        check.due("boarded", deck.told(0, 4), 600);
        deck.season(3);
        check.due("in another season", deck.told(0, 4), 600);
        check.due("board(0, 0)", deck.board(0, 0), FerryDeck.NO);
        check.due("behind NO", deck.told(0, 4), 600);
        deck.sail();
        check.due("abroad", deck.told(0, 4), 600);
        deck.back(0);
        check.due("back", deck.told(0, 4), 600);
        check.due("board(0, 1) back", deck.board(0, 1), FerryDeck.FULL);
        check.due("behind FULL, back", deck.told(0, 4), 600);
        deck.board(0, 0);
        check.due("boarded again", deck.told(0, 4), 690);
        deck.off(0);
        check.due("behind off", deck.told(0, 4), 0);
    }
}
