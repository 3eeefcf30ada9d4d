/** Promise 7: boarding, what is paid, and which of BAD, NO, FULL, NEAR comes first. */
public final class P07BoardTest {
    public static void main(String[] args) {
        Check check = new Check();
        pays(check);
        wrongNumbers(check);
        notWaiting(check);
        lengthEdges(check);
        massEdges(check);
        leftBehindOthers(check);
        dangers(check);
        dangersOfTheLastAlone(check);
        order(check);
        check.finish();
    }

    private static void pays(Check check) {
        int[] due = {1761, 1821, 2011, 4347, 7274, 1761, 1745};
        FerryDeck deck = Check.wideDeck();
        deck.season(3);
        long sum = 0;
        for (int kind = 0; kind < 7; kind++) {
            deck.vehicle(kind, 97, 10003);
            check.due("board(" + kind + ", " + kind % 4 + ")", deck.board(kind, kind % 4), due[kind]);
            sum += due[kind];
            check.due("till()", deck.till(), sum);
            check.due("told(" + kind + ", 4)", deck.told(kind, 4), due[kind]);
            check.due("told(" + kind + ", 2)", deck.told(kind, 2), kind % 4);
            check.due("told(" + kind + ", 3)", deck.told(kind, 3), kind / 4);
        }
    }

    private static void unchanged(Check check, FerryDeck deck, int vehicle, int lane) {
        check.due("still waits", deck.told(vehicle, 1), 0);
        check.due("still without a lane", deck.told(vehicle, 2), FerryDeck.NONE);
        check.due("still without a place", deck.told(vehicle, 3), FerryDeck.NONE);
        check.due("still paid nothing", deck.told(vehicle, 4), 0);
        check.due("not the last", deck.deck(lane, 5) == vehicle ? 1 : 0, 0);
    }

    private static void wrongNumbers(Check check) {
        FerryDeck deck = Check.wideDeck();
        deck.vehicle(0, 40, 0);
        int[][] wrong = {
            {-1, 0}, {1, 0}, {60, 0}, {Integer.MIN_VALUE, 0}, {Integer.MAX_VALUE, 0},
            {0, -1}, {0, 4}, {0, Integer.MIN_VALUE}, {0, Integer.MAX_VALUE},
        };
        for (int[] w : wrong) {
            check.due("board(" + w[0] + ", " + w[1] + ")", deck.board(w[0], w[1]), FerryDeck.BAD);
            unchanged(check, deck, 0, 0);
            check.due("till()", deck.till(), 0);
        }
    }

    private static void notWaiting(Check check) {
        FerryDeck deck = Check.wideDeck();
        deck.vehicle(0, 40, 0);
        check.due("board(0, 0)", deck.board(0, 0), 900);
        check.due("board(0, 0) on deck", deck.board(0, 0), FerryDeck.NO);
        check.due("board(0, 1) on deck", deck.board(0, 1), FerryDeck.NO);
        check.due("board(0, 4) on deck", deck.board(0, 4), FerryDeck.BAD);
        deck.sail();
        check.due("board(0, 0) abroad", deck.board(0, 0), FerryDeck.NO);
        deck.back(0);
        check.due("board(0, 0) back", deck.board(0, 0), 900);
        check.due("till()", deck.till(), 1800);
    }

    private static void lengthEdges(Check check) {
        FerryDeck deck = new FerryDeck();
        deck.vehicle(4, 30, 0);
        deck.lane(2, 84, 200000);
        check.due("a train of 80 in 84", deck.board(0, 2), FerryDeck.FULL);
        unchanged(check, deck, 0, 2);
        deck.lane(2, 85, 200000);
        check.due("a train of 80 in 85", deck.board(0, 2), 2600 + 20 + 320);
        check.due("deck(2, 0)", deck.deck(2, 0), 0);
    }

    private static void massEdges(Check check) {
        FerryDeck deck = new FerryDeck();
        deck.vehicle(3, 10, 8);
        deck.lane(1, 2000, 2009);
        check.due("a tanker of 2010 in 2009", deck.board(0, 1), FerryDeck.FULL);
        unchanged(check, deck, 0, 1);
        deck.lane(1, 2000, 2010);
        check.due("a tanker of 2010 in 2010", deck.board(0, 1), 1400 + 320);
        check.due("deck(1, 1)", deck.deck(1, 1), 0);
    }

    private static void leftBehindOthers(Check check) {
        FerryDeck deck = new FerryDeck();
        deck.lane(0, 100, 5000);
        deck.vehicle(0, 45, 0);
        deck.vehicle(0, 46, 0);
        deck.vehicle(0, 45, 2601);
        deck.vehicle(0, 45, 2600);
        deck.board(0, 0);
        check.due("too long by 1", deck.board(1, 0), FerryDeck.FULL);
        check.due("too heavy by 1", deck.board(2, 0), FerryDeck.FULL);
        check.due("just so", deck.board(3, 0), 950);
        check.due("deck(0, 0)", deck.deck(0, 0), 0);
        check.due("deck(0, 1)", deck.deck(0, 1), 0);
    }

    private static void dangers(Check check) {
        FerryDeck deck = Check.wideDeck();
        deck.vehicle(6, 95, 0);
        deck.vehicle(6, 94, 0);
        deck.vehicle(6, 95, 0);
        deck.vehicle(4, 120, 0);
        deck.vehicle(5, 10, 0);
        deck.vehicle(5, 150, 0);
        deck.board(0, 0);
        check.due("dangers 3 and 3", deck.board(2, 0), FerryDeck.NEAR);
        unchanged(check, deck, 2, 0);
        check.due("till() behind NEAR", deck.till(), 1350 + 51);
        check.due("deck(0, 2) behind NEAR", deck.deck(0, 2), 1);
        check.due("dangers 3 and 2", deck.board(1, 0), 1341 + 51);
        check.due("dangers 2 and 4", deck.board(3, 0), FerryDeck.NEAR);
        check.due("danger 4 alone", deck.board(3, 1), 6200 + 20 + 320);
        check.due("dangers 4 and 2", deck.board(5, 1), FerryDeck.NEAR);
        check.due("dangers 4 and 1", deck.board(4, 1), 600);
    }

    private static void dangersOfTheLastAlone(Check check) {
        FerryDeck deck = Check.wideDeck();
        deck.vehicle(4, 120, 0);
        deck.vehicle(2, 100, 0);
        deck.vehicle(4, 120, 0);
        deck.vehicle(4, 120, 0);
        deck.board(0, 3);
        check.due("a truck behind a train", deck.board(1, 3) > 0 ? 1 : 0, 1);
        check.due("a train behind a truck", deck.board(2, 3) > 0 ? 1 : 0, 1);
        check.due("a train behind a train", deck.board(3, 3), FerryDeck.NEAR);
        deck.off(3);
        check.due("behind a truck again", deck.board(3, 3) > 0 ? 1 : 0, 1);
    }

    private static void order(Check check) {
        FerryDeck deck = new FerryDeck();
        deck.lane(0, 270, 200000);
        deck.vehicle(4, 120, 0);
        deck.vehicle(4, 120, 0);
        deck.board(0, 0);
        check.due("FULL ahead of NEAR", deck.board(1, 0), FerryDeck.FULL);
        check.due("NO ahead of FULL", deck.board(0, 1), FerryDeck.NO);
        check.due("BAD ahead of NO", deck.board(0, -1), FerryDeck.BAD);
    }
}
