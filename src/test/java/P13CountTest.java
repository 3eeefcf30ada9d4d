/** Promise 13: the counts. */
public final class P13CountTest {
    public static void main(String[] args) {
        Check check = new Check();
        FerryDeck deck = Check.wideDeck();
        counts(check, deck, 0, 0, 0, 0, 0, 0);
        for (int i = 0; i < 5; i++) {
            deck.vehicle(0, 40, 0);
        }
        deck.season(2);
        counts(check, deck, 5, 5, 0, 0, 0, 2);
        deck.board(0, 0);
        deck.board(1, 1);
        deck.board(2, 1);
        counts(check, deck, 5, 2, 3, 0, 0, 2);
        deck.off(1);
        counts(check, deck, 5, 3, 2, 0, 0, 2);
        deck.sail();
        counts(check, deck, 5, 3, 0, 2, 1, 2);
        deck.sail();
        counts(check, deck, 5, 3, 0, 2, 1, 2);
        deck.back(0);
        deck.board(4, 3);
        deck.season(1);
        counts(check, deck, 5, 3, 1, 1, 1, 1);
        deck.sail();
        deck.vehicle(0, 40, 0);
        counts(check, deck, 6, 4, 0, 2, 2, 1);
        for (int what : new int[] {-1, 6, Integer.MIN_VALUE, Integer.MAX_VALUE}) {
            check.due("count(" + what + ")", deck.count(what), FerryDeck.BAD);
        }
        check.finish();
    }

    private static void counts(Check check, FerryDeck deck, int... due) {
        for (int what = 0; what < due.length; what++) {
            check.due("count(" + what + ")", deck.count(what), due[what]);
        }
    }
}
