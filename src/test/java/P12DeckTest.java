/** Promise 12: what is told of a lane. */
public final class P12DeckTest {
    private static final int NONE = FerryDeck.NONE;

    public static void main(String[] args) {
        Check check = new Check();
        FerryDeck deck = Check.wideDeck();
        deck.lane(1, 700, 70000);
        deck.vehicle(0, 40, 0);
        deck.vehicle(4, 100, 4000);
        deck.vehicle(6, 150, 1000);
        lane(check, deck, 1, 700, 70000, 0, 0, NONE, NONE);
        deck.board(1, 1);
        lane(check, deck, 1, 475, 63000, 1, 11, 1, 1);
        deck.board(0, 1);
        lane(check, deck, 1, 430, 61800, 2, 12, 1, 0);
        deck.board(2, 1);
        lane(check, deck, 1, 270, 50600, 3, 16, 1, 2);
        lane(check, deck, 0, 2000, 200000, 0, 0, NONE, NONE);
        deck.off(1);
        lane(check, deck, 1, 430, 61800, 2, 12, 1, 0);
        deck.board(2, 0);
        lane(check, deck, 0, 1840, 188800, 1, 4, 2, 2);
        deck.sail();
        lane(check, deck, 0, 2000, 200000, 0, 0, NONE, NONE);
        lane(check, deck, 1, 700, 70000, 0, 0, NONE, NONE);
        wrongNumbers(check, deck);
        sixtyInOneLane(check);
        check.finish();
    }

    private static void lane(Check check, FerryDeck deck, int lane, int... due) {
        for (int what = 0; what < due.length; what++) {
            check.due("deck(" + lane + ", " + what + ")", deck.deck(lane, what), due[what]);
        }
    }

    private static void wrongNumbers(Check check, FerryDeck deck) {
        int[][] wrong = {
            {-1, 0}, {4, 0}, {Integer.MIN_VALUE, 0}, {Integer.MAX_VALUE, 0},
            {0, -1}, {0, 6}, {0, Integer.MIN_VALUE}, {0, Integer.MAX_VALUE}, {4, 6},
        };
        for (int[] w : wrong) {
            check.due("deck(" + w[0] + ", " + w[1] + ")", deck.deck(w[0], w[1]), FerryDeck.BAD);
        }
    }

    private static void sixtyInOneLane(Check check) {
        FerryDeck deck = Check.wideDeck();
        for (int i = 0; i < 60; i++) {
            deck.vehicle(0, 10, 0);
            check.due("board(" + i + ", 2)", deck.board(i, 2), 600);
            check.due("told(" + i + ", 3)", deck.told(i, 3), i);
        }
        lane(check, deck, 2, 1100, 128000, 60, 60, 0, 59);
    }
}
