import java.util.ArrayList;
import java.util.Arrays;
import java.util.List;

/**
 * Tests at an edge: what is still allowed, what is refused, and that a refused call leaves all as it was.
 * A scene is played anew for each look, so that no deck is used for more than the document's 512 calls.
 */
final class Edge {
    static final int CAR = 0, VAN = 1, TRUCK = 2, TANKER = 3, TRAIN = 4, CAMPER = 5, COACH = 6;
    static final int LEAST = Integer.MIN_VALUE, MOST = Integer.MAX_VALUE;

    /** How many vehicles busy() makes: one more number is no vehicle's. */
    static final int BUSY_VEHICLES = 14;

    /** Of those that busy() makes: two that wait, two on deck, two abroad. */
    static final int BUSY_WAITS = 2, BUSY_BACK = 6, BUSY_FIRST = 7, BUSY_LAST = 8, BUSY_ABROAD = 0, BUSY_ABROAD_TOO = 3;

    /** The longest trace there is: what busy() leaves. */
    static final int[] BUSY_TRACE = {34, 33, 32, 31, 3, 2, 1, 13, 12, 11};

    /** The calls that bring a new deck to where the edge is. */
    interface Scene {
        void play(FerryDeck deck);
    }

    interface Call {
        long on(FerryDeck deck);
    }

    private interface Look {
        void at(FerryDeck deck, List<Seen> seen);
    }

    private record Seen(String call, long answer) { }

    private static final Look[] LOOKS_BESIDE_THE_TRACE = {
        Edge::totalsAndLanes,
        (deck, seen) -> vehicles(deck, 0, 30, seen),
        (deck, seen) -> vehicles(deck, 30, 60, seen),
        (deck, seen) -> answers(deck, 0, 30, seen),
        (deck, seen) -> answers(deck, 30, 60, seen),
        Edge::takenApart,
        Edge::sailedAndBack,
        Edge::goneOn,
    };

    private final Check check;

    Edge(Check check) {
        this.check = check;
    }

    /** The call is allowed and answers so; the deck behind it. */
    FerryDeck allowed(String name, Scene scene, Call call, long due) {
        FerryDeck deck = played(scene);
        check.due(name, call.on(deck), due);
        return deck;
    }

    /** The call answers so, and so again; all else, the trace too, is as if it had never been made. */
    void refused(String name, Scene scene, Call call, long due) {
        refusedTwice(name, scene, call, due);
        same(name, scene, call, Edge::wholeTrace);
        sameBesideTheTrace(name, scene, call);
    }

    /** As refused(), but that the trace is empty behind it. */
    void refusedEmptyingTheTrace(String name, Scene scene, Call call, long due) {
        refusedTwice(name, scene, call, due);
        FerryDeck deck = played(scene);
        call.on(deck);
        check.trace(name, deck);
        sameBesideTheTrace(name, scene, call);
    }

    /** The call only tells: it answers so, and changes nothing. */
    void tells(String name, Scene scene, Call call, long due) {
        refused(name, scene, call, due);
    }

    private void refusedTwice(String name, Scene scene, Call call, long due) {
        FerryDeck deck = played(scene);
        check.due(name, call.on(deck), due);
        check.due(name + " again", call.on(deck), due);
    }

    private void sameBesideTheTrace(String name, Scene scene, Call call) {
        for (Look look : LOOKS_BESIDE_THE_TRACE) {
            same(name, scene, call, look);
        }
    }

    private void same(String name, Scene scene, Call call, Look look) {
        FerryDeck with = played(scene);
        call.on(with);
        List<Seen> got = seen(with, look);
        List<Seen> want = seen(played(scene), look);
        int both = Math.min(got.size(), want.size());
        for (int i = 0; i < both; i++) {
            check.due(name + ", behind it " + got.get(i).call, got.get(i).answer, want.get(i).answer);
        }
        check.due(name + ", calls behind it", got.size(), want.size());
    }

    private static FerryDeck played(Scene scene) {
        FerryDeck deck = new FerryDeck();
        scene.play(deck);
        return deck;
    }

    private static List<Seen> seen(FerryDeck deck, Look look) {
        List<Seen> seen = new ArrayList<>();
        look.at(deck, seen);
        return seen;
    }

    private static void wholeTrace(FerryDeck deck, List<Seen> seen) {
        for (int i = -1; i < 14; i++) {
            seen.add(new Seen("trace(" + i + ")", deck.trace(i)));
        }
    }

    private static void totalsAndLanes(FerryDeck deck, List<Seen> seen) {
        for (int what = 0; what < 6; what++) {
            seen.add(new Seen("count(" + what + ")", deck.count(what)));
        }
        seen.add(new Seen("till()", deck.till()));
        for (int lane = 0; lane < 4; lane++) {
            for (int what = 0; what < 6; what++) {
                seen.add(new Seen("deck(" + lane + ", " + what + ")", deck.deck(lane, what)));
            }
        }
    }

    private static void vehicles(FerryDeck deck, int from, int to, List<Seen> seen) {
        int end = Math.min(to, deck.count(0) + 1);
        for (int vehicle = from; vehicle < end; vehicle++) {
            for (int what = 0; what < 7; what++) {
                seen.add(new Seen("told(" + vehicle + ", " + what + ")", deck.told(vehicle, what)));
            }
        }
    }

    private static void answers(FerryDeck deck, int from, int to, List<Seen> seen) {
        int end = Math.min(to, deck.count(0) + 1);
        for (int vehicle = from; vehicle < end; vehicle++) {
            for (int what = 0; what < 6; what++) {
                seen.add(new Seen("ask(" + vehicle + ", " + what + ", 3)", deck.ask(vehicle, what, 3)));
            }
        }
    }

    private static void takenApart(FerryDeck deck, List<Seen> seen) {
        for (int lane = 0; lane < 4; lane++) {
            int standing = deck.deck(lane, 2);
            for (int i = 0; i <= standing; i++) {
                seen.add(new Seen("off(" + lane + ")", deck.off(lane)));
                seen.add(new Seen("till()", deck.till()));
            }
        }
    }

    private static void sailedAndBack(FerryDeck deck, List<Seen> seen) {
        seen.add(new Seen("sail()", deck.sail()));
        int end = deck.count(0);
        for (int vehicle = 0; vehicle <= end; vehicle++) {
            seen.add(new Seen("back(" + vehicle + ")", deck.back(vehicle)));
        }
    }

    private static void goneOn(FerryDeck deck, List<Seen> seen) {
        int end = deck.count(0);
        for (int vehicle = 0; vehicle <= end; vehicle++) {
            int lane = vehicle % 4;
            seen.add(new Seen("board(" + vehicle + ", " + lane + ")", deck.board(vehicle, lane)));
        }
        seen.add(new Seen("vehicle(0, 10, 0)", deck.vehicle(0, 10, 0)));
        for (int lane = 0; lane < 4; lane++) {
            seen.add(new Seen("lane(" + lane + ", 1, 1)", deck.lane(lane, 1, 1)));
        }
        seen.add(new Seen("season(3)", deck.season(3)));
        totalsAndLanes(deck, seen);
    }

    /**
     * Numbers that are not in the range: right beside it and far from it on both sides, and such as would
     * fall into it if a sign or high bits were lost.
     */
    static int[] beside(int least, int most) {
        int[] tried = {
            least - 1, most + 1, least - 2, most + 2, LEAST, MOST, LEAST + 1, MOST - 1,
            -least, -most, ~least, ~most, LEAST + least, LEAST + most,
            least + 256, most + 256, most - 256, least + 65536, most + 65536, most - 65536,
        };
        return Arrays.stream(tried).filter(n -> n < least || n > most).distinct().toArray();
    }

    /** Nothing is done to the new deck. */
    static void untouched(FerryDeck deck) {
        // a scene without calls
    }

    /** Lanes that are all as long and as strong as can be. */
    static void wide(FerryDeck deck) {
        for (int lane = 0; lane < 4; lane++) {
            deck.lane(lane, 2000, 200000);
        }
    }

    /** It has sailed; some wait, one of these back again, some are on deck, some abroad; a trace is left. */
    static void busy(FerryDeck deck) {
        deck.lane(0, 2000, 200000);
        deck.lane(1, 700, 90000);
        deck.lane(2, 1500, 150000);
        deck.season(2);
        for (int kind = 0; kind < 7; kind++) {
            deck.vehicle(kind, 60 + 10 * kind, 1000 * kind + 500);
        }
        for (int kind = 0; kind < 7; kind++) {
            deck.vehicle(kind, 60, 700);
        }
        deck.board(BUSY_ABROAD, 0);
        deck.board(BUSY_ABROAD_TOO, 0);
        deck.board(BUSY_BACK, 2);
        deck.sail();
        deck.back(BUSY_BACK);
        deck.season(1);
        deck.board(BUSY_FIRST, 0);
        deck.board(9, 0);
        deck.board(BUSY_LAST, 0);
        deck.board(10, 1);
        deck.board(13, 2);
        deck.board(5, 2);
        deck.ask(TRAIN, 3, 3);
    }
}
