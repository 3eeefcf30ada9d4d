/** Promise 2 at its edges: the limits of kind, size and load, and 60 vehicles at most. */
public final class E02VehicleTest {
    private static final int BAD = FerryDeck.BAD, FULL = FerryDeck.FULL;

    public static void main(String[] args) {
        Check check = new Check();
        Edge edge = new Edge(check);
        kindZeroToSix(check, edge);
        sizeTenToTwoHundred(check, edge);
        loadZeroToFortyThousand(check, edge);
        severalWrongNumbers(edge);
        sixtyAtMost(check, edge);
        badAheadOfFull(edge);
        waitsAtFirst(check, edge);
        numbersGoOnBehindRefusedOnes(check);
        check.finish();
    }

    private static String call(int kind, int size, int load) {
        return "vehicle(" + kind + ", " + size + ", " + load + ")";
    }

    private static void bad(Edge edge, int kind, int size, int load) {
        edge.refused(call(kind, size, load), Edge::untouched, d -> d.vehicle(kind, size, load), BAD);
        edge.refused(call(kind, size, load) + " busy", Edge::busy, d -> d.vehicle(kind, size, load), BAD);
    }

    /** "KINDS .. 0 CAR .. 6 COACH". */
    private static void kindZeroToSix(Check check, Edge edge) {
        for (int kind = 0; kind < 7; kind++) {
            int k = kind;
            FerryDeck deck = edge.allowed(call(k, 10, 0), Edge::untouched, d -> d.vehicle(k, 10, 0), 0);
            check.due("told(0, 0)", deck.told(0, 0), k);
        }
        for (int kind : Edge.beside(0, 6)) {
            bad(edge, kind, 10, 0);
            bad(edge, kind, 200, 40000);
        }
    }

    /** "SIZE (10 .. 200 decimetres)". */
    private static void sizeTenToTwoHundred(Check check, Edge edge) {
        int[] allowed = {10, 11, 199, 200};
        for (int size : allowed) {
            FerryDeck deck = edge.allowed(call(0, size, 0), Edge::untouched, d -> d.vehicle(0, size, 0), 0);
            check.due("length of size " + size, deck.ask(0, 0, 0), size);
        }
        for (int size : Edge.beside(10, 200)) {
            bad(edge, 0, size, 0);
            bad(edge, 6, size, 40000);
        }
    }

    /** "LOAD (0 .. 40000 kilograms)". */
    private static void loadZeroToFortyThousand(Check check, Edge edge) {
        int[] allowed = {0, 1, 39999, 40000};
        for (int load : allowed) {
            FerryDeck deck = edge.allowed(call(0, 10, load), Edge::untouched, d -> d.vehicle(0, 10, load), 0);
            check.due("mass with load " + load, deck.ask(0, 1, 0), 1200 + load);
        }
        for (int load : Edge.beside(0, 40000)) {
            bad(edge, 0, 10, load);
            bad(edge, 6, 200, load);
        }
    }

    private static void severalWrongNumbers(Edge edge) {
        bad(edge, -1, 9, -1);
        bad(edge, 7, 201, 40001);
        bad(edge, 7, 9, 0);
        bad(edge, -1, 10, 40001);
        bad(edge, 0, 201, -1);
        bad(edge, Edge.LEAST, Edge.LEAST, Edge.LEAST);
        bad(edge, Edge.MOST, Edge.MOST, Edge.MOST);
    }

    private static void make(FerryDeck deck, int many) {
        for (int i = 0; i < many; i++) {
            deck.vehicle(i % 7, 10 + i, 100 * i);
        }
    }

    /** "(60 at most)": the 60th is number 59, the 61st is refused, and so it stays whatever the others do. */
    private static void sixtyAtMost(Check check, Edge edge) {
        FerryDeck deck = edge.allowed("the 59th", d -> make(d, 58), d -> d.vehicle(0, 10, 0), 58);
        check.due("the 60th", deck.vehicle(6, 200, 40000), 59);
        check.due("count(0)", deck.count(0), 60);
        check.due("told(59, 0)", deck.told(59, 0), 6);
        check.due("told(60, 0)", deck.told(60, 0), BAD);
        edge.refused("the 61st", d -> make(d, 60), d -> d.vehicle(0, 10, 0), FULL);
        edge.refused("the 61st, largest", d -> make(d, 60), d -> d.vehicle(6, 200, 40000), FULL);
        edge.refused("the 61st with one on deck", E02VehicleTest::sixtyAndOneOnDeck, d -> d.vehicle(3, 50, 50), FULL);
        edge.refused("the 61st with one abroad", E02VehicleTest::sixtyAndOneAbroad, d -> d.vehicle(3, 50, 50), FULL);
    }

    private static void sixtyAndOneOnDeck(FerryDeck deck) {
        Edge.wide(deck);
        make(deck, 60);
        deck.board(59, 3);
        deck.ask(59, 2, 0);
    }

    private static void sixtyAndOneAbroad(FerryDeck deck) {
        sixtyAndOneOnDeck(deck);
        deck.sail();
    }

    /** "the first of these that fits: BAD .., FULL". */
    private static void badAheadOfFull(Edge edge) {
        int[][] wrong = {
            {-1, 10, 0}, {7, 10, 0}, {0, 9, 0}, {0, 201, 0}, {0, 10, -1}, {0, 10, 40001},
            {Edge.LEAST, 10, 0}, {0, Edge.MOST, 0}, {0, 10, Edge.LEAST},
        };
        for (int[] w : wrong) {
            String name = call(w[0], w[1], w[2]) + " with 60";
            edge.refused(name, E02VehicleTest::sixtyAndOneOnDeck, d -> d.vehicle(w[0], w[1], w[2]), BAD);
        }
    }

    /** "A VEHICLE WAITS (at first)". */
    private static void waitsAtFirst(Check check, Edge edge) {
        int[] due = {4, 0, FerryDeck.NONE, FerryDeck.NONE, 0, 1, 1};
        int number = Edge.BUSY_VEHICLES;
        FerryDeck deck = edge.allowed("vehicle(4, 77, 7)", Edge::busy, d -> d.vehicle(4, 77, 7), number);
        for (int what = 0; what < 7; what++) {
            check.due("told(" + number + ", " + what + ")", deck.told(number, what), due[what]);
        }
        check.due("count(1)", deck.count(1), 7);
        check.trace("vehicle() leaves the trace", deck, Edge.BUSY_TRACE);
    }

    private static void numbersGoOnBehindRefusedOnes(Check check) {
        FerryDeck deck = new FerryDeck();
        for (int i = 0; i < 60; i++) {
            check.due("a wrong one ahead of " + i, deck.vehicle(0, i % 10, 0), BAD);
            check.due("vehicle " + i, deck.vehicle(0, 10, 0), i);
        }
        check.due("the 61st", deck.vehicle(0, 10, 0), FULL);
    }
}
