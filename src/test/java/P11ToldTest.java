/** Promise 11: what is told of a vehicle. */
public final class P11ToldTest {
    private static final int NONE = FerryDeck.NONE;

    public static void main(String[] args) {
        Check check = new Check();
        kinds(check);
        ways(check);
        wrongNumbers(check);
        check.finish();
    }

    private static void told(Check check, FerryDeck deck, int vehicle, int... due) {
        for (int what = 0; what < due.length; what++) {
            check.due("told(" + vehicle + ", " + what + ")", deck.told(vehicle, what), due[what]);
        }
    }

    private static void kinds(Check check) {
        FerryDeck deck = new FerryDeck();
        int[] heavy = {0, 0, 1, 1, 1, 0, 1};
        int[] marked = {0, 0, 0, 1, 1, 1, 1};
        for (int kind = 0; kind < 7; kind++) {
            deck.vehicle(kind, 10, 0);
            told(check, deck, kind, kind, 0, NONE, NONE, 0, heavy[kind], marked[kind]);
        }
    }

    private static void ways(Check check) {
        FerryDeck deck = Check.wideDeck();
        deck.vehicle(0, 40, 0);
        deck.vehicle(1, 40, 0);
        deck.vehicle(2, 40, 0);
        deck.board(2, 3);
        deck.board(0, 3);
        deck.board(1, 3);
        told(check, deck, 2, 2, 1, 3, 0, 1010, 1, 0);
        told(check, deck, 0, 0, 1, 3, 1, 900, 0, 0);
        told(check, deck, 1, 1, 1, 3, 2, 900, 0, 0);
        deck.off(3);
        told(check, deck, 1, 1, 0, NONE, NONE, 0, 0, 0);
        deck.board(1, 0);
        told(check, deck, 1, 1, 1, 0, 0, 900, 0, 0);
        deck.sail();
        told(check, deck, 2, 2, 2, NONE, NONE, 1010, 1, 0);
        told(check, deck, 0, 0, 2, NONE, NONE, 900, 0, 0);
        deck.back(0);
        told(check, deck, 0, 0, 0, NONE, NONE, 900, 0, 0);
    }

    private static void wrongNumbers(Check check) {
        FerryDeck deck = new FerryDeck();
        deck.vehicle(0, 40, 0);
        int[][] wrong = {
            {-1, 0}, {1, 0}, {60, 0}, {Integer.MIN_VALUE, 0}, {Integer.MAX_VALUE, 0},
            {0, -1}, {0, 7}, {0, Integer.MIN_VALUE}, {0, Integer.MAX_VALUE}, {1, 7},
        };
        for (int[] w : wrong) {
            check.due("told(" + w[0] + ", " + w[1] + ")", deck.told(w[0], w[1]), FerryDeck.BAD);
        }
    }
}
