/** Promise 1: a new object has no vehicles. */
public final class P01NewObjectTest {
    public static void main(String[] args) {
        Check check = new Check();
        FerryDeck deck = new FerryDeck();
        for (int what = 0; what <= 5; what++) {
            check.due("count(" + what + ")", deck.count(what), 0);
        }
        check.due("till()", deck.till(), 0);
        check.due("trace(0)", deck.trace(0), FerryDeck.NONE);
        check.due("told(0, 0)", deck.told(0, 0), FerryDeck.BAD);
        check.due("ask(0, 0, 0)", deck.ask(0, 0, 0), FerryDeck.BAD);
        for (int lane = 0; lane < 4; lane++) {
            int[] empty = {0, 0, 0, 0, FerryDeck.NONE, FerryDeck.NONE};
            for (int what = 0; what <= 5; what++) {
                check.due("deck(" + lane + ", " + what + ")", deck.deck(lane, what), empty[what]);
            }
        }
        objectsAreApart(check);
        check.finish();
    }

    private static void objectsAreApart(Check check) {
        FerryDeck used = Check.wideDeck();
        used.vehicle(0, 40, 0);
        used.season(3);
        used.board(0, 0);
        used.ask(0, 0, 0);
        FerryDeck other = new FerryDeck();
        check.due("other count(0)", other.count(0), 0);
        check.due("other count(5)", other.count(5), 0);
        check.due("other till()", other.till(), 0);
        check.due("other trace(0)", other.trace(0), FerryDeck.NONE);
        check.due("other deck(0, 0)", other.deck(0, 0), 0);
    }
}
