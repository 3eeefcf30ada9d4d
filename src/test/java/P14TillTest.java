/** Promise 14: the till. */
public final class P14TillTest {
    public static void main(String[] args) {
        Check check = new Check();
        FerryDeck deck = Check.wideDeck();
        check.due("till()", deck.till(), 0);
        deck.vehicle(4, 200, 40000);
        deck.vehicle(0, 10, 0);
        deck.season(3);
        // 2 * (500 + 420 * 13 + 60) + 520 as the fare, 820 as the toll
        check.due("board(0, 0)", deck.board(0, 0), 13380);
        check.due("till()", deck.till(), 13380);
        check.due("board(1, 3)", deck.board(1, 3), 630);
        check.due("till()", deck.till(), 14010);
        check.due("sail()", deck.sail(), FerryDeck.NO);
        check.due("till() behind NO", deck.till(), 14010);
        check.due("board(1, 3)", deck.board(1, 3), FerryDeck.NO);
        check.due("till() behind NO", deck.till(), 14010);
        check.due("off(0)", deck.off(0), 13380);
        check.due("till()", deck.till(), 630);
        check.due("sail()", deck.sail(), 31);
        check.due("till() behind sailing", deck.till(), 630);
        deck.back(1);
        check.due("till() behind back", deck.till(), 630);
        deck.season(0);
        check.due("board(1, 3)", deck.board(1, 3), 600);
        check.due("till()", deck.till(), 1230);
        check.finish();
    }
}
