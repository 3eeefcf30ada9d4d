/** Promise 9: sailing, its minutes, and how far the two sides may be apart. */
public final class P09SailTest {
    public static void main(String[] args) {
        Check check = new Check();
        check.due("sail() empty", new FerryDeck().sail(), FerryDeck.NO);
        minutes(check);
        behindSailing(check);
        for (int lane = 0; lane < 4; lane++) {
            apart(check, lane);
        }
        sides(check);
        check.finish();
    }

    private static void minutes(Check check) {
        FerryDeck deck = Check.wideDeck();
        deck.vehicle(0, 10, 0);
        deck.vehicle(0, 100, 0);
        deck.vehicle(0, 100, 0);
        deck.vehicle(4, 10, 0);
        check.due("sail() with waiting ones alone", deck.sail(), FerryDeck.NO);
        deck.board(0, 0);
        check.due("one minute", deck.sail(), 31);
        deck.back(0);
        deck.board(0, 0);
        deck.board(1, 3);
        deck.board(2, 3);
        check.due("the lane that needs most", deck.sail(), 36);
        deck.back(1);
        deck.back(2);
        deck.board(1, 1);
        deck.board(2, 1);
        deck.board(3, 2);
        check.due("a train's minutes", deck.sail(), 37);
        check.due("count(4)", deck.count(4), 3);
    }

    private static void behindSailing(Check check) {
        FerryDeck deck = Check.wideDeck();
        deck.lane(1, 500, 9000);
        for (int i = 0; i < 4; i++) {
            deck.vehicle(0, 40, 0);
        }
        deck.board(0, 1);
        deck.board(1, 1);
        deck.board(2, 2);
        check.due("sail()", deck.sail(), 32);
        for (int i = 0; i < 3; i++) {
            check.due("told(" + i + ", 1)", deck.told(i, 1), 2);
            check.due("told(" + i + ", 2)", deck.told(i, 2), FerryDeck.NONE);
            check.due("told(" + i + ", 3)", deck.told(i, 3), FerryDeck.NONE);
            check.due("told(" + i + ", 4)", deck.told(i, 4), 900);
        }
        check.due("told(3, 1)", deck.told(3, 1), 0);
        int[] empty = {500, 9000, 0, 0, FerryDeck.NONE, FerryDeck.NONE};
        for (int what = 0; what < 6; what++) {
            check.due("deck(1, " + what + ")", deck.deck(1, what), empty[what]);
        }
        check.due("till()", deck.till(), 2700);
        check.due("sail() again", deck.sail(), FerryDeck.NO);
        check.due("count(4)", deck.count(4), 1);
        deck.board(3, 1);
        check.due("told(3, 3)", deck.told(3, 3), 0);
        check.due("deck(1, 4)", deck.deck(1, 4), 3);
        check.due("deck(1, 5)", deck.deck(1, 5), 3);
        check.due("off(1)", deck.off(1), 900);
        check.due("off(1)", deck.off(1), FerryDeck.NO);
    }

    private static void apart(Check check, int lane) {
        FerryDeck deck = Check.wideDeck();
        deck.vehicle(0, 10, 28800);
        deck.vehicle(0, 10, 28801);
        deck.board(1, lane);
        check.due("30001 in lane " + lane, deck.sail(), FerryDeck.NO);
        check.due("still on deck", deck.told(1, 1), 1);
        check.due("count(4)", deck.count(4), 0);
        check.due("deck(lane, 2)", deck.deck(lane, 2), 1);
        deck.off(lane);
        deck.board(0, lane);
        check.due("30000 in lane " + lane, deck.sail(), 31);
        check.due("count(4)", deck.count(4), 1);
    }

    private static void sides(Check check) {
        FerryDeck deck = Check.wideDeck();
        for (int i = 0; i < 4; i++) {
            deck.vehicle(0, 10, 18800);
        }
        deck.board(0, 0);
        deck.board(1, 1);
        check.due("0 and 1 are one side", deck.sail(), FerryDeck.NO);
        deck.board(2, 2);
        check.due("20000 apart", deck.sail(), 31);
        deck.board(3, 3);
        for (int i = 0; i < 3; i++) {
            deck.back(i);
        }
        deck.board(0, 2);
        check.due("2 and 3 are one side", deck.sail(), FerryDeck.NO);
        deck.board(1, 0);
        deck.board(2, 1);
        check.due("even", deck.sail(), 31);
    }
}
