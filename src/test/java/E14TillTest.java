/** Promise 14 at its edges: 0 at first and when all is given back, the most that one run can bring in. */
public final class E14TillTest {
    public static void main(String[] args) {
        Check check = new Check();
        Edge edge = new Edge(check);
        onlyTells(edge);
        zeroAgain(check);
        refusedCallsBringNothing(check);
        theMostOfOneSailing(check);
        check.finish();
    }

    private static void onlyTells(Edge edge) {
        // season 2: a car of 60, a tanker of 90 and 3500, a coach of 120 and 6500
        long abroad = 1220 + (2 * (500 + 100 * 12 + 40) + 363) + (2000 - 200 + 83);
        // season 1: a car, a truck, a van, a tanker and a coach of 60 and 700, a camper of 110
        long onDeck = 1160 + (1290 + 13) + 1180 + (2 * 1290 + 328) + (1215 - 121 + 54) + 1710;
        edge.tells("till()", Edge::busy, d -> d.till(), abroad + onDeck);
        edge.tells("till() at first", Edge::untouched, d -> d.till(), 0);
    }

    private static void zeroAgain(Check check) {
        FerryDeck deck = new FerryDeck();
        Edge.wide(deck);
        for (int kind = 0; kind < 7; kind++) {
            deck.vehicle(kind, 10, 0);
        }
        deck.season(3);
        for (int kind = 0; kind < 7; kind++) {
            deck.board(kind, kind % 4);
        }
        check.due("till()", deck.till(), 630 + 690 + 830 + 1960 + 2500 + 630 + 677);
        deck.season(0);
        for (int i = 0; i < 2; i++) {
            for (int lane = 0; lane < 4; lane++) {
                deck.off(lane);
            }
        }
        check.due("count(2)", deck.count(2), 0);
        check.due("till() when all are off", deck.till(), 0);
        deck.off(0);
        check.due("till() behind NO", deck.till(), 0);
    }

    private static void refusedCallsBringNothing(Check check) {
        FerryDeck deck = new FerryDeck();
        deck.lane(0, 600, 30000);
        for (int i = 0; i < 3; i++) {
            deck.vehicle(Edge.TRAIN, 120, 0);
        }
        check.due("board(0, 0)", deck.board(0, 0), 6540);
        check.due("NO", deck.board(0, 0), FerryDeck.NO);
        check.due("till() behind NO", deck.till(), 6540);
        check.due("FULL", deck.board(1, 1), FerryDeck.FULL);
        check.due("till() behind FULL", deck.till(), 6540);
        check.due("NEAR", deck.board(1, 0), FerryDeck.NEAR);
        check.due("till() behind NEAR", deck.till(), 6540);
        check.due("BAD", deck.board(3, 0), FerryDeck.BAD);
        check.due("till() behind BAD", deck.till(), 6540);
        check.due("sail()", deck.sail(), 42);
        check.due("till() behind sail()", deck.till(), 6540);
        check.due("back(0)", deck.back(0), 1);
        check.due("till() behind back()", deck.till(), 6540);
        check.due("board(0, 0) again", deck.board(0, 0), 6540);
        check.due("till()", deck.till(), 13080);
        check.due("off(0)", deck.off(0), 6540);
        check.due("till() behind off()", deck.till(), 6540);
    }

    /** The dearest vehicle in each lane, sailing after sailing, up to the 512th call. */
    private static void theMostOfOneSailing(Check check) {
        FerryDeck deck = new FerryDeck();
        Edge.wide(deck);
        deck.season(3);
        for (int i = 0; i < 4; i++) {
            deck.vehicle(Edge.TRAIN, 200, 40000);
        }
        int sailings = 0;
        for (int calls = 9; calls + 9 + 1 <= 512; calls += 9) {
            for (int i = 0; i < 4; i++) {
                deck.board(i, i);
            }
            deck.sail();
            for (int i = 0; i < 4; i++) {
                deck.back(i);
            }
            sailings++;
        }
        check.due("till()", deck.till(), 4L * 13380 * sailings);
    }
}
