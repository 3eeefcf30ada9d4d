/** Counts the answers of one test that are not as due; finish() ends it with exit code 1 if there is one. */
final class Check {
    private int wrong = 0;

    void due(String call, long got, long want) {
        if (got != want) {
            wrong++;
            System.out.println(call + " answered " + got + ", due is " + want);
        }
    }

    void finish() {
        if (wrong > 0) {
            System.out.println(wrong + " answers are not as due");
            System.exit(1);
        }
    }

    /** The whole trace, and NONE right behind it and far from it. */
    void trace(String call, FerryDeck deck, int... bodies) {
        for (int i = 0; i < bodies.length; i++) {
            due(call + " trace(" + i + ")", deck.trace(i), bodies[i]);
        }
        for (int i = bodies.length; i < bodies.length + 12; i++) {
            due(call + " trace(" + i + ")", deck.trace(i), FerryDeck.NONE);
        }
        due(call + " trace(-1)", deck.trace(-1), FerryDeck.NONE);
        due(call + " trace(least)", deck.trace(Integer.MIN_VALUE), FerryDeck.NONE);
        due(call + " trace(most)", deck.trace(Integer.MAX_VALUE), FerryDeck.NONE);
    }

    /** A deck whose lanes are all as long and as strong as can be. */
    static FerryDeck wideDeck() {
        FerryDeck deck = new FerryDeck();
        for (int lane = 0; lane < 4; lane++) {
            deck.lane(lane, 2000, 200000);
        }
        return deck;
    }
}
