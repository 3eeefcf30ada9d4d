/** Promise 6 at its edges: the seasons 0 to 3. */
public final class E06SeasonTest {
    public static void main(String[] args) {
        Check check = new Check();
        Edge edge = new Edge(check);
        zeroToThree(check);
        notZeroToThree(edge);
        whatItWasBehindARefusal(check);
        paidStaysAsItWas(check);
        check.finish();
    }

    /** "The SEASON becomes s: what it was", from each to each. */
    private static void zeroToThree(Check check) {
        for (int from = 0; from < 4; from++) {
            for (int to = 0; to < 4; to++) {
                FerryDeck deck = new FerryDeck();
                check.due("season(" + from + ") at first", deck.season(from), 0);
                check.due("season(" + to + ") in " + from, deck.season(to), from);
                check.due("count(5)", deck.count(5), to);
            }
        }
    }

    /** "BAD: s is not 0 .. 3". */
    private static void notZeroToThree(Edge edge) {
        for (int s : Edge.beside(0, 3)) {
            edge.refused("season(" + s + ")", Edge::busy, d -> d.season(s), FerryDeck.BAD);
            edge.refused("season(" + s + ") at first", Edge::untouched, d -> d.season(s), FerryDeck.BAD);
            edge.refused("season(" + s + ") in 3", d -> d.season(3), d -> d.season(s), FerryDeck.BAD);
        }
    }

    private static void whatItWasBehindARefusal(Check check) {
        FerryDeck deck = new FerryDeck();
        deck.season(3);
        check.due("season(4)", deck.season(4), FerryDeck.BAD);
        check.due("season(0)", deck.season(0), 3);
        check.due("season(-1)", deck.season(-1), FerryDeck.BAD);
        check.due("season(3)", deck.season(3), 0);
    }

    private static void paidStaysAsItWas(Check check) {
        FerryDeck deck = new FerryDeck();
        Edge.busy(deck);
        long till = deck.till();
        int paid = deck.told(Edge.BUSY_LAST, 4);
        check.due("season(3)", deck.season(3), 1);
        check.due("till()", deck.till(), till);
        check.due("paid", deck.told(Edge.BUSY_LAST, 4), paid);
        check.due("count(2)", deck.count(2), 6);
        check.trace("season() leaves the trace", deck, Edge.BUSY_TRACE);
        check.due("off(0)", deck.off(0), paid);
    }
}
