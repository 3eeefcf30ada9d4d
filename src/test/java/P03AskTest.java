/** Promise 3: what a vehicle of each kind answers, and by which bodies. */
public final class P03AskTest {
    private static final int NO = FerryDeck.NO;

    /** Vehicles of size 97 and load 10003 (numbers that / cuts), by kind; the fares in season 3. */
    private static final int[][] ANSWERS = {
        // length, mass, minutes, fare, toll, danger
        {97, 11203, 2, 1761, NO, NO},
        {97, 12003, 2, 1821, NO, NO},
        {107, 12003, 3, 1951, 60, NO},
        {107, 14503, 3, 3902, 445, 1},
        {214, 14503, 11, 6829, 445, 3},
        {97, 11203, 2, 1761, NO, 1},
        {102, 20203, 3, 1644, 101, 3},
    };

    private static final int[][][] TRACES = {
        {{1}, {11}, {21, 1}, {31, 1}, {}, {}},
        {{1}, {12, 11}, {21, 1}, {32, 31, 1}, {}, {}},
        {{2, 1}, {12, 11}, {21, 2, 1}, {32, 31, 2, 1}, {41, 12, 11}, {}},
        {{2, 1}, {13, 12, 11}, {21, 2, 1}, {33, 32, 31, 2, 1}, {42, 13, 12, 11}, {51, 21, 2, 1}},
        {{3, 2, 1}, {13, 12, 11}, {22, 21, 3, 2, 1}, {34, 33, 32, 31, 3, 2, 1, 13, 12, 11},
            {42, 13, 12, 11}, {51, 22, 21, 3, 2, 1}},
        {{1}, {11}, {21, 1}, {31, 1}, {}, {51, 21, 1}},
        {{4, 1}, {14, 11}, {21, 4, 1}, {35, 31, 4, 1}, {41, 14, 11}, {52, 4, 1}},
    };

    public static void main(String[] args) {
        Check check = new Check();
        everyKind(check);
        seasons(check);
        cuts(check);
        wrongNumbers(check);
        onDeckAndAbroad(check);
        check.finish();
    }

    private static FerryDeck oneOfEach() {
        FerryDeck deck = Check.wideDeck();
        for (int kind = 0; kind < 7; kind++) {
            deck.vehicle(kind, 97, 10003);
        }
        return deck;
    }

    private static void everyKind(Check check) {
        for (int kind = 0; kind < 7; kind++) {
            FerryDeck deck = oneOfEach();
            for (int what = 0; what < 6; what++) {
                String call = "ask(" + kind + ", " + what + ", 3)";
                check.due(call, deck.ask(kind, what, 3), ANSWERS[kind][what]);
                check.trace(call, deck, TRACES[kind][what]);
            }
        }
    }

    private static void seasons(Check check) {
        FerryDeck deck = oneOfEach();
        int[] van = {500 + 970, 500 + 1067 + 20, 500 + 1164 + 40, 500 + 1261 + 60};
        for (int s = 0; s < 4; s++) {
            check.due("ask(1, 3, " + s + ")", deck.ask(1, 3, s), van[s]);
        }
        deck.season(3);
        check.due("ask(1, 3, 0) in season 3", deck.ask(1, 3, 0), van[0]);
        check.due("count(5)", deck.count(5), 3);
        int[] any = {-1, 4, Integer.MIN_VALUE, Integer.MAX_VALUE};
        for (int s : any) {
            for (int what = 0; what < 6; what++) {
                int due = what == 3 ? FerryDeck.BAD : ANSWERS[4][what];
                check.due("ask(4, " + what + ", " + s + ")", deck.ask(4, what, s), due);
            }
            check.due("ask(0, 4, " + s + ")", deck.ask(0, 4, s), NO);
        }
    }

    private static void cuts(Check check) {
        FerryDeck deck = new FerryDeck();
        check.due("vehicle", deck.vehicle(0, 49, 0), 0);
        check.due("vehicle", deck.vehicle(0, 50, 0), 1);
        check.due("minutes of 49", deck.ask(0, 2, 0), 1);
        check.due("minutes of 50", deck.ask(1, 2, 0), 2);
        deck.vehicle(6, 94, 0);
        deck.vehicle(6, 95, 0);
        check.due("danger of 99", deck.ask(2, 5, 0), 2);
        check.due("danger of 100", deck.ask(3, 5, 0), 3);
        deck.vehicle(5, 149, 0);
        deck.vehicle(5, 150, 0);
        check.due("danger of 3 minutes", deck.ask(4, 5, 0), 1);
        check.due("danger of 4 minutes", deck.ask(5, 5, 0), 2);
        deck.vehicle(3, 10, 3);
        deck.vehicle(3, 10, 4);
        check.due("mass of load 3", deck.ask(6, 1, 0), 2003);
        check.due("mass of load 4", deck.ask(7, 1, 0), 2005);
        deck.vehicle(6, 10, 0);
        // 500 and 15 * 11: 665, whose tenth is cut to 66
        check.due("fare of a coach", deck.ask(8, 3, 1), 599);
    }

    private static void wrongNumbers(Check check) {
        FerryDeck deck = oneOfEach();
        deck.ask(4, 0, 0);
        int[][] wrong = {
            {-1, 0, 0}, {7, 0, 0}, {Integer.MIN_VALUE, 0, 0}, {Integer.MAX_VALUE, 0, 0},
            {0, -1, 0}, {0, 6, 0}, {0, Integer.MIN_VALUE, 0}, {0, Integer.MAX_VALUE, 0},
            {0, 3, -1}, {0, 3, 4}, {7, 4, 0}, {60, 0, 0},
        };
        for (int[] w : wrong) {
            String call = "ask(" + w[0] + ", " + w[1] + ", " + w[2] + ")";
            check.due(call, deck.ask(w[0], w[1], w[2]), FerryDeck.BAD);
            check.trace(call, deck, 3, 2, 1);
        }
    }

    private static void onDeckAndAbroad(Check check) {
        FerryDeck deck = oneOfEach();
        deck.board(4, 0);
        check.due("ask on deck", deck.ask(4, 3, 3), ANSWERS[4][3]);
        deck.sail();
        check.due("ask abroad", deck.ask(4, 2, 0), ANSWERS[4][2]);
        check.due("told(4, 1)", deck.told(4, 1), 2);
    }
}
