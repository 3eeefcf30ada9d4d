/** Promise 8 at its edges: the lanes 0 to 3, an empty lane, the last of one and of more. */
public final class E08OffTest {
    private static final int BAD = FerryDeck.BAD, NO = FerryDeck.NO, NONE = FerryDeck.NONE;

    public static void main(String[] args) {
        Check check = new Check();
        Edge edge = new Edge(check);
        lanesZeroToThree(check, edge);
        emptyLane(edge);
        theLastOneAlone(check);
        itWaits(check);
        whatItPaidIsGivenBack(check);
        sixtyGoOff(check);
        check.finish();
    }

    private static Edge.Scene oneIn(int lane) {
        return d -> {
            Edge.wide(d);
            d.vehicle(Edge.COACH, 10, 0);
            d.board(0, lane);
            d.ask(0, 3, 0);
        };
    }

    /** "LANES 0 .. 3". */
    private static void lanesZeroToThree(Check check, Edge edge) {
        for (int lane = 0; lane < 4; lane++) {
            int l = lane;
            FerryDeck deck = edge.allowed("off(" + l + ")", oneIn(l), d -> d.off(l), 585 + 51);
            check.due("standing", deck.deck(l, 2), 0);
            check.due("till()", deck.till(), 0);
            check.trace("off() leaves the trace", deck, 35, 31, 4, 1);
        }
        for (int lane : Edge.beside(0, 3)) {
            edge.refused("off(" + lane + ")", Edge::untouched, d -> d.off(lane), BAD);
            edge.refused("off(" + lane + ") busy", Edge::busy, d -> d.off(lane), BAD);
        }
    }

    /** "NO: it is empty": none stood there, all went off, all sailed; others standing elsewhere. */
    private static void emptyLane(Edge edge) {
        for (int lane = 0; lane < 4; lane++) {
            int l = lane;
            edge.refused("off(" + l + ") none stood", Edge::wide, d -> d.off(l), NO);
            edge.refused("off(" + l + ") one stands elsewhere", oneIn((l + 1) % 4), d -> d.off(l), NO);
            Edge.Scene gone = d -> {
                oneIn(l).play(d);
                d.off(l);
            };
            edge.refused("off(" + l + ") went off", gone, d -> d.off(l), NO);
            Edge.Scene sailed = d -> {
                oneIn(l).play(d);
                d.sail();
            };
            edge.refused("off(" + l + ") sailed", sailed, d -> d.off(l), NO);
            Edge.Scene back = d -> {
                sailed.play(d);
                d.back(0);
            };
            edge.refused("off(" + l + ") back", back, d -> d.off(l), NO);
        }
        edge.refused("off(3) busy", Edge::busy, d -> d.off(3), NO);
    }

    /** "The last one of a LANE goes OFF": those ahead and those of other lanes stay. */
    private static void theLastOneAlone(Check check) {
        FerryDeck deck = new FerryDeck();
        Edge.busy(deck);
        check.due("off(0)", deck.off(0), 1180);
        check.due("the last then", deck.deck(0, 5), 9);
        check.due("the first then", deck.deck(0, 4), Edge.BUSY_FIRST);
        check.due("standing then", deck.deck(0, 2), 2);
        check.due("place of the last", deck.told(9, 3), 1);
        check.due("count(2)", deck.count(2), 5);
        check.due("off(0)", deck.off(0), 1290 + 13);
        check.due("the last is the first", deck.deck(0, 5), Edge.BUSY_FIRST);
        check.due("off(0)", deck.off(0), 1160);
        check.due("the last of none", deck.deck(0, 5), NONE);
        check.due("the first of none", deck.deck(0, 4), NONE);
        check.due("off(0)", deck.off(0), NO);
        check.due("standing in lane 1", deck.deck(1, 2), 1);
        check.due("standing in lane 2", deck.deck(2, 2), 2);
        check.due("count(2)", deck.count(2), 3);
    }

    /** "it WAITS". */
    private static void itWaits(Check check) {
        FerryDeck deck = new FerryDeck();
        Edge.busy(deck);
        int waited = deck.count(1);
        deck.off(0);
        check.due("count(1)", deck.count(1), waited + 1);
        check.due("count(3)", deck.count(3), 2);
        int[] due = {Edge.VAN, 0, NONE, NONE, 0, 0, 0};
        for (int what = 0; what < 7; what++) {
            check.due("told(8, " + what + ")", deck.told(Edge.BUSY_LAST, what), due[what]);
        }
        check.due("back of one that went off", deck.back(Edge.BUSY_LAST), NO);
    }

    /** "what it PAID is given back": not what it would pay in the season now, nor what it paid before. */
    private static void whatItPaidIsGivenBack(Check check) {
        FerryDeck deck = new FerryDeck();
        Edge.wide(deck);
        deck.vehicle(Edge.VAN, 10, 0);
        deck.board(0, 0);
        deck.sail();
        deck.back(0);
        deck.season(3);
        check.due("board(0, 0)", deck.board(0, 0), 690);
        deck.season(1);
        check.due("till()", deck.till(), 1290);
        check.due("off(0)", deck.off(0), 690);
        check.due("till()", deck.till(), 600);
        check.due("told(0, 4)", deck.told(0, 4), 0);
        check.due("off(0) again", deck.off(0), NO);
        check.due("till()", deck.till(), 600);
    }

    private static void sixtyGoOff(Check check) {
        FerryDeck deck = new FerryDeck();
        Edge.wide(deck);
        for (int i = 0; i < 60; i++) {
            deck.vehicle(Edge.CAR, 10 + i % 20, 0);
            deck.board(i, 3);
        }
        check.due("standing", deck.deck(3, 2), 60);
        for (int i = 59; i >= 0; i--) {
            check.due("the last", deck.deck(3, 5), i);
            check.due("off(3)", deck.off(3), 600 + 10 * (i % 20));
            check.due("standing", deck.deck(3, 2), i);
        }
        check.due("off(3)", deck.off(3), NO);
        check.due("length left", deck.deck(3, 0), 2000);
        check.due("bearing left", deck.deck(3, 1), 200000);
        check.due("till()", deck.till(), 0);
    }
}
