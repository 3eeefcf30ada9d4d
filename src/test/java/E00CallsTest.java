/** Terms: "An object is used for at most 512 calls after it has been made": the 512th answers as the first would. */
public final class E00CallsTest {
    private static final int CALLS = 512;

    public static void main(String[] args) {
        Check check = new Check();
        sailsToTheLastCall(check);
        boardsAndGoesOffToTheLastCall(check);
        asksToTheLastCall(check);
        refusesToTheLastCall(check);
        fillsTheDeckByTheLastCall(check);
        check.finish();
    }

    private static void sailsToTheLastCall(Check check) {
        FerryDeck deck = new FerryDeck();
        deck.lane(0, 15, 1200);
        deck.vehicle(0, 10, 0);
        int calls = 2;
        int sailed = 0;
        while (calls + 3 + 3 <= CALLS) {
            check.due("board(0, 0) as call " + calls, deck.board(0, 0), 600);
            check.due("sail() behind it", deck.sail(), 31);
            check.due("back(0) behind it", deck.back(0), 1);
            sailed++;
            calls += 3;
        }
        check.due("till()", deck.till(), 600L * sailed);
        check.due("count(4)", deck.count(4), sailed);
        check.due("board(0, 0) as the last call", deck.board(0, 0), 600);
    }

    private static void boardsAndGoesOffToTheLastCall(Check check) {
        FerryDeck deck = new FerryDeck();
        deck.lane(3, 425, 52000);
        deck.vehicle(4, 200, 40000);
        deck.season(3);
        for (int calls = 3; calls + 2 + 3 <= CALLS; calls += 2) {
            check.due("board(0, 3) as call " + calls, deck.board(0, 3), 13380);
            check.due("off(3) behind it", deck.off(3), 13380);
        }
        check.due("board(0, 3)", deck.board(0, 3), 13380);
        check.due("till()", deck.till(), 13380);
        check.due("off(3) as the last call", deck.off(3), 13380);
    }

    private static void asksToTheLastCall(Check check) {
        FerryDeck deck = new FerryDeck();
        deck.vehicle(4, 10, 0);
        for (int calls = 1; calls + 1 < CALLS; calls++) {
            check.due("ask(0, 3, 0) as call " + calls, deck.ask(0, 3, 0), 1820);
        }
        check.due("trace(9)", deck.trace(9), 11);
    }

    private static void refusesToTheLastCall(Check check) {
        FerryDeck deck = new FerryDeck();
        for (int calls = 0; calls + 1 < CALLS; calls++) {
            check.due("vehicle(0, 9, 0) as call " + calls, deck.vehicle(0, 9, 0), FerryDeck.BAD);
        }
        check.due("vehicle(0, 10, 0)", deck.vehicle(0, 10, 0), 0);
    }

    private static void fillsTheDeckByTheLastCall(Check check) {
        FerryDeck deck = new FerryDeck();
        for (int calls = 0; calls < 390; calls++) {
            deck.season(calls % 4);
        }
        check.due("lane(1, 900, 72000)", deck.lane(1, 900, 72000), 1);
        check.due("season(0)", deck.season(0), 1);
        for (int i = 0; i < 60; i++) {
            check.due("vehicle " + i, deck.vehicle(0, 10, 0), i);
            check.due("board(" + i + ", 1)", deck.board(i, 1), 600);
        }
    }
}
