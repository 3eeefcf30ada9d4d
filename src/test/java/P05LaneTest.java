/** Promise 5: a lane's length and bearing, while none stand in it. */
public final class P05LaneTest {
    public static void main(String[] args) {
        Check check = new Check();
        edges(check);
        wrongNumbers(check);
        whileSomeStand(check);
        check.finish();
    }

    private static void lane(Check check, FerryDeck deck, int lane, int length, int bearing) {
        String call = "lane(" + lane + ", " + length + ", " + bearing + ")";
        check.due(call, deck.lane(lane, length, bearing), 1);
        left(check, call, deck, lane, length, bearing);
    }

    private static void left(Check check, String call, FerryDeck deck, int lane, int length, int bearing) {
        check.due("length left behind " + call, deck.deck(lane, 0), length);
        check.due("bearing left behind " + call, deck.deck(lane, 1), bearing);
    }

    private static void edges(Check check) {
        FerryDeck deck = new FerryDeck();
        lane(check, deck, 0, 2000, 200000);
        lane(check, deck, 3, 1999, 199999);
        lane(check, deck, 1, 1, 1);
        lane(check, deck, 0, 0, 0);
        left(check, "others", deck, 3, 1999, 199999);
        left(check, "others", deck, 2, 0, 0);
    }

    private static void wrongNumbers(Check check) {
        FerryDeck deck = new FerryDeck();
        lane(check, deck, 0, 100, 5000);
        int[][] wrong = {
            {-1, 0, 0}, {4, 0, 0}, {Integer.MIN_VALUE, 0, 0}, {Integer.MAX_VALUE, 0, 0},
            {0, -1, 0}, {0, 2001, 0}, {0, Integer.MIN_VALUE, 0}, {0, Integer.MAX_VALUE, 0},
            {0, 0, -1}, {0, 0, 200001}, {0, 0, Integer.MIN_VALUE}, {0, 0, Integer.MAX_VALUE},
        };
        for (int[] w : wrong) {
            String call = "lane(" + w[0] + ", " + w[1] + ", " + w[2] + ")";
            check.due(call, deck.lane(w[0], w[1], w[2]), FerryDeck.BAD);
            left(check, call, deck, 0, 100, 5000);
        }
    }

    private static void whileSomeStand(Check check) {
        FerryDeck deck = Check.wideDeck();
        deck.vehicle(0, 40, 800);
        deck.board(0, 1);
        check.due("lane(1, 2000, 200000)", deck.lane(1, 2000, 200000), FerryDeck.NO);
        check.due("lane(1, 5, 5)", deck.lane(1, 5, 5), FerryDeck.NO);
        check.due("lane(1, 2001, 5)", deck.lane(1, 2001, 5), FerryDeck.BAD);
        check.due("lane(1, 5, -1)", deck.lane(1, 5, -1), FerryDeck.BAD);
        left(check, "NO", deck, 1, 1955, 198000);
        lane(check, deck, 2, 7, 8);
        deck.off(1);
        lane(check, deck, 1, 50, 2000);
        deck.board(0, 1);
        deck.sail();
        left(check, "sail()", deck, 1, 50, 2000);
        lane(check, deck, 1, 9, 10);
    }
}
