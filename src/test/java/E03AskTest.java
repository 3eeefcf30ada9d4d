/** Promise 3 at its edges: which vehicle, which what, which season, those without toll or danger. */
public final class E03AskTest {
    private static final int BAD = FerryDeck.BAD, NO = FerryDeck.NO;

    public static void main(String[] args) {
        Check check = new Check();
        Edge edge = new Edge(check);
        vehicleZeroToTheLast(check, edge);
        whatZeroToFive(check, edge);
        seasonOfAFareZeroToThree(check, edge);
        seasonOfOthersAnyNumber(check);
        noTollUnlessHeavy(check, edge);
        noDangerUnlessMarked(check, edge);
        noWhateverTheSeason(edge);
        badAheadOfNo(edge);
        traceIsEmptyAheadOfIt(check);
        answersWhereverItIs(check);
        check.finish();
    }

    private static void bad(Edge edge, int vehicle, int what, int s) {
        String call = "ask(" + vehicle + ", " + what + ", " + s + ")";
        edge.refused(call, Edge::busy, d -> d.ask(vehicle, what, s), BAD);
    }

    private static void vehicleZeroToTheLast(Check check, Edge edge) {
        int last = Edge.BUSY_VEHICLES - 1;
        edge.allowed("ask(0, 0, 0)", Edge::busy, d -> d.ask(0, 0, 0), 60);
        edge.allowed("ask(13, 0, 0)", Edge::busy, d -> d.ask(last, 0, 0), 65);
        for (int vehicle : Edge.beside(0, last)) {
            for (int what = 0; what < 6; what++) {
                bad(edge, vehicle, what, 0);
            }
        }
        FerryDeck deck = new FerryDeck();
        for (int i = 0; i < 60; i++) {
            check.due("ask of one that is yet to come", deck.ask(i, 0, 0), BAD);
            deck.vehicle(0, 10 + i, 0);
            check.due("ask of the newest", deck.ask(i, 0, 0), 10 + i);
        }
        check.due("ask(60, 0, 0)", deck.ask(60, 0, 0), BAD);
    }

    /** "0 LENGTH, 1 MASS, 2 MINUTES, 3 FARE .., 4 TOLL, 5 DANGER". */
    private static void whatZeroToFive(Check check, Edge edge) {
        int[] due = {220, 7625, 11, 5476, 376, 3};
        int[] first = {3, 13, 22, 34, 42, 51};
        for (int what = 0; what < 6; what++) {
            int asked = what;
            FerryDeck deck = edge.allowed("ask(4, " + what + ", 0)", Edge::busy, d -> d.ask(4, asked, 0), due[what]);
            check.due("trace(0)", deck.trace(0), first[what]);
        }
        for (int what : Edge.beside(0, 5)) {
            bad(edge, 4, what, 0);
            bad(edge, 0, what, 3);
            bad(edge, Edge.BUSY_VEHICLES, what, 0);
        }
    }

    /** "3 FARE in the SEASON s (0 .. 3 ..)", whatever the season is. */
    private static void seasonOfAFareZeroToThree(Check check, Edge edge) {
        int[] due = {1100, 1180, 1260, 1340};
        for (int s = 0; s < 4; s++) {
            int season = s;
            FerryDeck deck = edge.allowed("ask(8, 3, " + s + ")", Edge::busy, d -> d.ask(8, 3, season), due[s]);
            check.trace("ask(8, 3, " + s + ")", deck, 32, 31, 1);
            check.due("count(5) behind it", deck.count(5), 1);
        }
        for (int s : Edge.beside(0, 3)) {
            for (int vehicle = 0; vehicle < 7; vehicle++) {
                bad(edge, vehicle, 3, s);
            }
        }
    }

    /** "for others any number". */
    private static void seasonOfOthersAnyNumber(Check check) {
        FerryDeck deck = new FerryDeck();
        Edge.busy(deck);
        int[] due = {220, 7625, 11, BAD, 376, 3};
        for (int s : Edge.beside(0, 3)) {
            for (int what = 0; what < 6; what++) {
                check.due("ask(4, " + what + ", " + s + ")", deck.ask(4, what, s), due[what]);
            }
        }
    }

    private static void no(Edge edge, int vehicle, int what, int s) {
        String call = "ask(" + vehicle + ", " + what + ", " + s + ")";
        edge.refusedEmptyingTheTrace(call, Edge::busy, d -> d.ask(vehicle, what, s), NO);
    }

    /** "NO: 4 .. of one that has none such": a car, a van, a camper. */
    private static void noTollUnlessHeavy(Check check, Edge edge) {
        int[] without = {Edge.CAR, Edge.VAN, Edge.CAMPER, 7, 8, 12};
        for (int vehicle : without) {
            no(edge, vehicle, 4, 0);
        }
        int[] with = {Edge.TRUCK, Edge.TANKER, Edge.TRAIN, Edge.COACH};
        int[] due = {22, 363, 376, 83};
        for (int i = 0; i < with.length; i++) {
            int vehicle = with[i];
            FerryDeck deck = edge.allowed("toll of " + vehicle, Edge::busy, d -> d.ask(vehicle, 4, 0), due[i]);
            check.due("trace(0)", deck.trace(0), vehicle == Edge.TRUCK || vehicle == Edge.COACH ? 41 : 42);
        }
    }

    /** "NO: .. 5 of one that has none such": a car, a van, a truck. */
    private static void noDangerUnlessMarked(Check check, Edge edge) {
        int[] without = {Edge.CAR, Edge.VAN, Edge.TRUCK, 7, 8, 9};
        for (int vehicle : without) {
            no(edge, vehicle, 5, 0);
        }
        int[] with = {Edge.TANKER, Edge.TRAIN, Edge.CAMPER, Edge.COACH};
        int[] due = {1, 3, 1, 3};
        for (int i = 0; i < with.length; i++) {
            int vehicle = with[i];
            FerryDeck deck = edge.allowed("danger of " + vehicle, Edge::busy, d -> d.ask(vehicle, 5, 0), due[i]);
            check.due("trace(0)", deck.trace(0), vehicle == Edge.COACH ? 52 : 51);
        }
    }

    private static void noWhateverTheSeason(Edge edge) {
        int[] seasons = {-1, 0, 3, 4, Edge.LEAST, Edge.MOST};
        for (int s : seasons) {
            no(edge, Edge.CAR, 4, s);
            no(edge, Edge.CAR, 5, s);
        }
    }

    /** No vehicle of that number has a toll or a danger either, but BAD fits first: the trace stays. */
    private static void badAheadOfNo(Edge edge) {
        bad(edge, -1, 4, 0);
        bad(edge, Edge.BUSY_VEHICLES, 4, 0);
        bad(edge, -1, 5, 0);
        bad(edge, Edge.BUSY_VEHICLES, 5, 0);
    }

    /** "THE TRACE is empty ahead of it, if it is not BAD": nothing of a longer one is left behind a shorter one. */
    private static void traceIsEmptyAheadOfIt(Check check) {
        FerryDeck deck = new FerryDeck();
        Edge.busy(deck);
        check.trace("busy", deck, Edge.BUSY_TRACE);
        deck.ask(4, 5, 0);
        check.trace("danger of a train", deck, 51, 22, 21, 3, 2, 1);
        deck.ask(4, 5, 0);
        check.trace("the same again", deck, 51, 22, 21, 3, 2, 1);
        deck.ask(0, 0, 0);
        check.trace("length of a car", deck, 1);
        deck.ask(0, 6, 0);
        check.trace("BAD", deck, 1);
        deck.ask(0, 5, 0);
        check.trace("NO", deck);
        deck.ask(0, 3, 4);
        check.trace("BAD behind NO", deck);
        deck.ask(4, 3, 0);
        check.trace("fare of a train", deck, Edge.BUSY_TRACE);
    }

    private static void answersWhereverItIs(Check check) {
        FerryDeck deck = new FerryDeck();
        Edge.busy(deck);
        check.due("waits", deck.ask(Edge.BUSY_BACK, 2, 0), 3);
        check.due("on deck", deck.ask(Edge.BUSY_LAST, 2, 0), 2);
        check.due("abroad", deck.ask(Edge.BUSY_ABROAD_TOO, 2, 0), 3);
        check.due("abroad, fare in season 0", deck.ask(Edge.BUSY_ABROAD_TOO, 3, 0), 3000);
        check.due("on deck, no toll", deck.ask(Edge.BUSY_LAST, 4, 0), NO);
        check.due("abroad, no danger", deck.ask(Edge.BUSY_ABROAD, 5, 0), NO);
    }
}
