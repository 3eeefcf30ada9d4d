/** Promise 2: vehicle() numbers vehicles from 0, refuses wrong numbers, and has room for 60. */
public final class P02VehicleTest {
    public static void main(String[] args) {
        Check check = new Check();
        edges(check);
        wrongNumbers(check);
        sixtyAtMost(check);
        check.finish();
    }

    private static void edges(Check check) {
        FerryDeck deck = new FerryDeck();
        check.due("vehicle(0, 10, 0)", deck.vehicle(0, 10, 0), 0);
        check.due("vehicle(6, 200, 40000)", deck.vehicle(6, 200, 40000), 1);
        check.due("vehicle(3, 100, 20000)", deck.vehicle(3, 100, 20000), 2);
        check.due("told(0, 0)", deck.told(0, 0), 0);
        check.due("told(1, 0)", deck.told(1, 0), 6);
        check.due("told(2, 0)", deck.told(2, 0), 3);
        check.due("told(1, 1)", deck.told(1, 1), 0);
        check.due("ask(0, 0, 0)", deck.ask(0, 0, 0), 10);
        check.due("ask(0, 1, 0)", deck.ask(0, 1, 0), 1200);
        check.due("ask(1, 0, 0)", deck.ask(1, 0, 0), 205);
        check.due("ask(1, 1, 0)", deck.ask(1, 1, 0), 50200);
    }

    private static void wrongNumbers(Check check) {
        FerryDeck deck = new FerryDeck();
        int[][] wrong = {
            {-1, 10, 0}, {7, 10, 0}, {Integer.MIN_VALUE, 10, 0}, {Integer.MAX_VALUE, 10, 0},
            {0, 9, 0}, {0, 201, 0}, {0, -10, 0}, {0, Integer.MAX_VALUE, 0}, {0, Integer.MIN_VALUE, 0},
            {0, 10, -1}, {0, 10, 40001}, {0, 10, Integer.MIN_VALUE}, {0, 10, Integer.MAX_VALUE},
        };
        for (int[] w : wrong) {
            String call = "vehicle(" + w[0] + ", " + w[1] + ", " + w[2] + ")";
            check.due(call, deck.vehicle(w[0], w[1], w[2]), FerryDeck.BAD);
            check.due("count(0) behind " + call, deck.count(0), 0);
        }
        check.due("vehicle behind the wrong ones", deck.vehicle(0, 10, 0), 0);
    }

    private static void sixtyAtMost(Check check) {
        FerryDeck deck = new FerryDeck();
        for (int i = 0; i < 60; i++) {
            check.due("vehicle " + i, deck.vehicle(i % 7, 10 + i, 100 * i), i);
        }
        check.due("the 61st", deck.vehicle(0, 10, 0), FerryDeck.FULL);
        check.due("a wrong 61st", deck.vehicle(7, 10, 0), FerryDeck.BAD);
        check.due("a wrong 61st size", deck.vehicle(0, 9, 0), FerryDeck.BAD);
        check.due("a wrong 61st load", deck.vehicle(0, 10, 40001), FerryDeck.BAD);
        check.due("count(0)", deck.count(0), 60);
        check.due("told(59, 0)", deck.told(59, 0), 3);
        check.due("told(60, 0)", deck.told(60, 0), FerryDeck.BAD);
        check.due("ask(59, 1, 0)", deck.ask(59, 1, 0), 1200 + 5900 + 800 + 1475);
    }
}
