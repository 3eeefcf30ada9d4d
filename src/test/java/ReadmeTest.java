/** The example of README.md, line by line: its answers are as the comments there tell. */
public final class ReadmeTest {
    public static void main(String[] args) {
        Check check = new Check();
        FerryDeck deck = new FerryDeck();
        check.due("lane", deck.lane(0, 2000, 200000), 1);
        int van = deck.vehicle(1, 60, 5000);
        check.due("van", van, 0);
        check.due("ask", deck.ask(van, 3, 2), 1260);
        check.trace("ask", deck, 32, 31, 1);
        check.due("season", deck.season(2), 0);
        check.due("board", deck.board(van, 0), 1260);
        check.due("deck", deck.deck(0, 0), 1935);
        check.due("board again", deck.board(van, 0), FerryDeck.NO);
        check.due("sail", deck.sail(), 32);
        check.due("back", deck.back(van), 1);
        check.due("till", deck.till(), 1260);
        check.finish();
    }
}
