/** Promise 6: the season, and what it was. */
public final class P06SeasonTest {
    public static void main(String[] args) {
        Check check = new Check();
        FerryDeck deck = Check.wideDeck();
        check.due("season(3)", deck.season(3), 0);
        check.due("season(1)", deck.season(1), 3);
        check.due("season(1) again", deck.season(1), 1);
        int[] wrong = {-1, 4, Integer.MIN_VALUE, Integer.MAX_VALUE};
        for (int s : wrong) {
            check.due("season(" + s + ")", deck.season(s), FerryDeck.BAD);
            check.due("count(5)", deck.count(5), 1);
        }
        check.due("season(2)", deck.season(2), 1);
        check.due("season(0)", deck.season(0), 2);
        check.due("count(5)", deck.count(5), 0);

        deck.vehicle(1, 60, 0);
        int[] fares = {1100, 1180, 1260, 1340};
        for (int s = 0; s < 4; s++) {
            deck.season(s);
            check.due("board(0, 0) in season " + s, deck.board(0, 0), fares[s]);
            deck.season(3 - s);
            check.due("off(0) in another season", deck.off(0), fares[s]);
        }
        check.finish();
    }
}
