/** Promise 8: the last vehicle of a lane goes off, and gets back what it paid. */
public final class P08OffTest {
    public static void main(String[] args) {
        Check check = new Check();
        FerryDeck deck = Check.wideDeck();
        for (int lane : new int[] {-1, 4, Integer.MIN_VALUE, Integer.MAX_VALUE}) {
            check.due("off(" + lane + ")", deck.off(lane), FerryDeck.BAD);
        }
        check.due("off(0) empty", deck.off(0), FerryDeck.NO);
        deck.vehicle(0, 40, 0);
        deck.vehicle(3, 40, 4000);
        deck.vehicle(2, 40, 0);
        deck.board(0, 2);
        deck.season(2);
        deck.board(1, 2);
        deck.board(2, 2);
        deck.season(0);
        check.due("till()", deck.till(), 900 + (2280 + 370) + (1140 + 10));
        check.due("off(1) empty", deck.off(1), FerryDeck.NO);

        check.due("off(2)", deck.off(2), 1150);
        waits(check, deck, 2);
        check.due("till()", deck.till(), 3550);
        check.due("off(2)", deck.off(2), 2650);
        waits(check, deck, 1);
        check.due("deck(2, 5)", deck.deck(2, 5), 0);
        check.due("deck(2, 4)", deck.deck(2, 4), 0);
        check.due("deck(2, 0)", deck.deck(2, 0), 1955);
        check.due("deck(2, 1)", deck.deck(2, 1), 198800);
        check.due("deck(2, 2)", deck.deck(2, 2), 1);
        check.due("deck(2, 3)", deck.deck(2, 3), 1);
        check.due("off(2)", deck.off(2), 900);
        waits(check, deck, 0);
        check.due("off(2) empty", deck.off(2), FerryDeck.NO);
        check.due("till()", deck.till(), 0);
        check.due("deck(2, 4)", deck.deck(2, 4), FerryDeck.NONE);
        check.due("deck(2, 5)", deck.deck(2, 5), FerryDeck.NONE);

        check.due("board again", deck.board(1, 2), 2000 + 370);
        check.due("deck(2, 4)", deck.deck(2, 4), 1);
        deck.sail();
        check.due("off(2) sailed", deck.off(2), FerryDeck.NO);
        check.finish();
    }

    private static void waits(Check check, FerryDeck deck, int vehicle) {
        check.due("told(" + vehicle + ", 1)", deck.told(vehicle, 1), 0);
        check.due("told(" + vehicle + ", 2)", deck.told(vehicle, 2), FerryDeck.NONE);
        check.due("told(" + vehicle + ", 3)", deck.told(vehicle, 3), FerryDeck.NONE);
        check.due("told(" + vehicle + ", 4)", deck.told(vehicle, 4), 0);
    }
}
