import java.util.Random;

/** Long mixed runs, the same ones each time, in which the class and the model must answer alike. */
public final class ModelTest {
    private static final int RUNS = 3000;

    /** What later calls answer is free. */
    private static final int CALLS = 512;

    /** What the look at everything needs at the end of a run. */
    private static final int LAST_CALLS = 60 + 6 + 4 * 6 + 1;

    /** One step makes at most a change and two looks. */
    private static final int STEP_CALLS = 3;

    private final Random random;
    private final FerryDeck deck = new FerryDeck();
    private final Model model = new Model();
    private final Check check;
    private final int run;
    private int calls = 0;

    private ModelTest(int run, Check check) {
        this.run = run;
        this.check = check;
        this.random = new Random(run);
    }

    public static void main(String[] args) {
        Check check = new Check();
        for (int run = 0; run < RUNS; run++) {
            new ModelTest(run, check).play();
        }
        check.finish();
    }

    private void play() {
        if (run % 3 != 0) {
            for (int lane = 0; lane < 4; lane++) {
                int length = 1000 + random.nextInt(1001);
                int bearing = 50000 + random.nextInt(150001);
                due("lane", deck.lane(lane, length, bearing), model.lane(lane, length, bearing), lane, length, bearing);
            }
        }
        while (calls + STEP_CALLS + LAST_CALLS <= CALLS) {
            change(random.nextInt(20));
            look(random.nextInt(5));
        }
        everything(run % 7);
    }

    private void due(String name, long got, long want, int... arguments) {
        calls++;
        if (got == want) {
            return;
        }
        StringBuilder call = new StringBuilder("run " + run + ": " + name);
        for (int a : arguments) {
            call.append(' ').append(a);
        }
        check.due(call.toString(), got, want);
    }

    /** A number of the range, now and then one right beside it or far from it. */
    private int near(int least, int most) {
        switch (random.nextInt(40)) {
            case 0: return least - 1;
            case 1: return most + 1;
            case 2: return random.nextInt();
            case 3: return least;
            case 4: return most;
            default: return least + random.nextInt(most - least + 1);
        }
    }

    private int someVehicle() {
        return near(0, Math.max(0, model.count(0) - 1));
    }

    private void change(int which) {
        int a = near(0, 3);
        int v = someVehicle();
        switch (which) {
            case 0: case 1: case 2: {
                int kind = near(0, 6);
                int size = near(10, 200);
                int load = near(0, random.nextBoolean() ? 40000 : 5000);
                due("vehicle", deck.vehicle(kind, size, load), model.vehicle(kind, size, load), kind, size, load);
                break;
            }
            case 3: {
                int length = near(0, 2000);
                int bearing = near(0, 200000);
                due("lane", deck.lane(a, length, bearing), model.lane(a, length, bearing), a, length, bearing);
                break;
            }
            case 4:
                due("season", deck.season(a), model.season(a), a);
                break;
            case 5: case 6:
                due("off", deck.off(a), model.off(a), a);
                break;
            case 7:
                due("sail", deck.sail(), model.sail());
                break;
            case 8: case 9: case 10:
                due("back", deck.back(v), model.back(v), v);
                break;
            default:
                due("board", deck.board(v, a), model.board(v, a), v, a);
                break;
        }
    }

    private void look(int which) {
        int v = someVehicle();
        int lane = near(0, 3);
        switch (which) {
            case 0: {
                int what = near(0, 5);
                int s = near(0, 3);
                due("ask", deck.ask(v, what, s), model.ask(v, what, s), v, what, s);
                break;
            }
            case 1: {
                int what = near(0, 6);
                due("told", deck.told(v, what), model.told(v, what), v, what);
                break;
            }
            case 2: {
                int what = near(0, 5);
                due("deck", deck.deck(lane, what), model.deck(lane, what), lane, what);
                break;
            }
            case 3: {
                int what = near(0, 5);
                due("count", deck.count(what), model.count(what), what);
                break;
            }
            default: {
                int i = near(0, 10);
                due("trace", deck.trace(i), model.trace(i), i);
                due("till", deck.till(), model.till());
                break;
            }
        }
    }

    private void everything(int told) {
        for (int vehicle = 0; vehicle < 60; vehicle++) {
            due("told", deck.told(vehicle, told), model.told(vehicle, told), vehicle, told);
        }
        for (int what = 0; what < 6; what++) {
            due("count", deck.count(what), model.count(what), what);
            for (int lane = 0; lane < 4; lane++) {
                due("deck", deck.deck(lane, what), model.deck(lane, what), lane, what);
            }
        }
        due("till", deck.till(), model.till());
    }
}
