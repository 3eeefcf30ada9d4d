/** Promise 10: one that is abroad waits again. */
public final class P10BackTest {
    public static void main(String[] args) {
        Check check = new Check();
        FerryDeck deck = Check.wideDeck();
        check.due("back(0) without vehicles", deck.back(0), FerryDeck.BAD);
        deck.vehicle(0, 40, 0);
        deck.vehicle(0, 40, 0);
        for (int vehicle : new int[] {-1, 2, 60, Integer.MIN_VALUE, Integer.MAX_VALUE}) {
            check.due("back(" + vehicle + ")", deck.back(vehicle), FerryDeck.BAD);
        }
        check.due("back(0) waiting", deck.back(0), FerryDeck.NO);
        deck.board(0, 0);
        check.due("back(0) on deck", deck.back(0), FerryDeck.NO);
        check.due("told(0, 1)", deck.told(0, 1), 1);
        deck.board(1, 1);
        deck.sail();
        check.due("back(0)", deck.back(0), 1);
        check.due("told(0, 1)", deck.told(0, 1), 0);
        check.due("told(0, 2)", deck.told(0, 2), FerryDeck.NONE);
        check.due("told(0, 3)", deck.told(0, 3), FerryDeck.NONE);
        check.due("told(0, 4) stays", deck.told(0, 4), 900);
        check.due("told(1, 1)", deck.told(1, 1), 2);
        check.due("back(0) again", deck.back(0), FerryDeck.NO);
        check.due("till()", deck.till(), 1800);
        deck.season(1);
        check.due("board(0, 0)", deck.board(0, 0), 940);
        check.due("told(0, 4)", deck.told(0, 4), 940);
        check.due("off(0)", deck.off(0), 940);
        check.due("told(0, 4) behind off", deck.told(0, 4), 0);
        check.due("till()", deck.till(), 1800);
        check.finish();
    }
}
