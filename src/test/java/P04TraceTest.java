/** Promise 4: the trace is of the latest ask() that was not BAD, and no other call touches it. */
public final class P04TraceTest {
    public static void main(String[] args) {
        Check check = new Check();
        FerryDeck deck = Check.wideDeck();
        check.trace("new", deck);
        deck.vehicle(0, 60, 3000);
        deck.vehicle(4, 60, 3000);
        deck.vehicle(6, 60, 3000);
        check.trace("vehicle()", deck);
        deck.ask(1, 3, 1);
        check.trace("fare of a train", deck, 34, 33, 32, 31, 3, 2, 1, 13, 12, 11);
        deck.ask(0, 2, 1);
        check.trace("a shorter one behind it", deck, 21, 1);
        deck.ask(0, 3, 4);
        check.trace("BAD leaves it", deck, 21, 1);
        othersLeaveIt(check, deck);
        deck.ask(0, 4, 0);
        check.trace("NO empties it", deck);
        deck.ask(2, 5, 0);
        check.trace("danger of a coach", deck, 52, 4, 1);
        deck.ask(0, 5, 0);
        check.trace("NO empties it again", deck);
        check.finish();
    }

    private static void othersLeaveIt(Check check, FerryDeck deck) {
        deck.vehicle(3, 100, 1000);
        check.trace("vehicle()", deck, 21, 1);
        deck.lane(3, 1000, 1000);
        deck.season(2);
        check.trace("lane(), season()", deck, 21, 1);
        deck.board(1, 0);
        deck.board(2, 0);
        check.trace("board()", deck, 21, 1);
        deck.off(0);
        check.trace("off()", deck, 21, 1);
        for (int what = 0; what < 7; what++) {
            deck.told(1, what);
            deck.deck(0, what);
            deck.count(what);
        }
        deck.till();
        check.trace("told(), deck(), count(), till()", deck, 21, 1);
        deck.sail();
        deck.back(1);
        check.trace("sail(), back()", deck, 21, 1);
    }
}
