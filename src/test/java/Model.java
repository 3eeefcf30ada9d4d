import java.util.ArrayList;
import java.util.List;

/** The document once more, in another way: a Java class for each kind, and every sum made anew. */
final class Model {
    private static final int NONE = -1, BAD = -2, NO = -3, FULL = -4, NEAR = -5;

    private final List<Car> all = new ArrayList<>();
    private final List<List<Car>> lanes = List.of(
        new ArrayList<>(), new ArrayList<>(), new ArrayList<>(), new ArrayList<>());
    private final int[] lengths = new int[4];
    private final int[] bearings = new int[4];
    private List<Integer> trace = new ArrayList<>();
    private int season = 0;
    private int sailed = 0;
    private long till = 0;

    interface Heavy {
        int mass(List<Integer> t);

        default int toll(List<Integer> t) {
            t.add(41);
            return mass(t) / 200;
        }
    }

    interface Marked {
        int minutes(List<Integer> t);

        default int danger(List<Integer> t) {
            t.add(51);
            return 1 + minutes(t) / 4;
        }
    }

    static class Car {
        int kind;
        int size;
        int load;
        int how = 0;
        int paid = 0;

        public int length(List<Integer> t) {
            t.add(1);
            return size;
        }

        public int mass(List<Integer> t) {
            t.add(11);
            return 1200 + load;
        }

        public int minutes(List<Integer> t) {
            t.add(21);
            return 1 + length(t) / 50;
        }

        public int fare(int s, List<Integer> t) {
            t.add(31);
            return 500 + length(t) * (10 + s);
        }
    }

    static class Van extends Car {
        @Override public int mass(List<Integer> t) {
            t.add(12);
            return super.mass(t) + 800;
        }

        @Override public int fare(int s, List<Integer> t) {
            t.add(32);
            return super.fare(s, t) + 20 * s;
        }
    }

    static class Truck extends Van implements Heavy {
        @Override public int length(List<Integer> t) {
            t.add(2);
            return super.length(t) + 10;
        }
    }

    static class Tanker extends Truck implements Marked {
        @Override public int mass(List<Integer> t) {
            t.add(13);
            return super.mass(t) + load / 4;
        }

        @Override public int fare(int s, List<Integer> t) {
            t.add(33);
            return 2 * super.fare(s, t);
        }

        @Override public int toll(List<Integer> t) {
            t.add(42);
            return mass(t) / 100 + 300;
        }
    }

    static final class Train extends Tanker {
        @Override public int length(List<Integer> t) {
            t.add(3);
            return 2 * super.length(t);
        }

        @Override public int minutes(List<Integer> t) {
            t.add(22);
            return super.minutes(t) + 6;
        }

        @Override public int fare(int s, List<Integer> t) {
            t.add(34);
            int above = super.fare(s, t);
            return above + mass(t) / 100;
        }
    }

    static class Camper extends Car implements Marked {
    }

    static final class Coach extends Camper implements Heavy {
        @Override public int length(List<Integer> t) {
            t.add(4);
            return super.length(t) + 5;
        }

        @Override public int mass(List<Integer> t) {
            t.add(14);
            return super.mass(t) + 9000;
        }

        @Override public int fare(int s, List<Integer> t) {
            t.add(35);
            int above = super.fare(s, t);
            return above - above / 10;
        }

        @Override public int danger(List<Integer> t) {
            t.add(52);
            return 2 + length(t) / 100;
        }
    }

    private static Car make(int kind) {
        switch (kind) {
            case 0: return new Car();
            case 1: return new Van();
            case 2: return new Truck();
            case 3: return new Tanker();
            case 4: return new Train();
            case 5: return new Camper();
            default: return new Coach();
        }
    }

    private static int answer(Car car, int what, int s, List<Integer> t) {
        switch (what) {
            case 0: return car.length(t);
            case 1: return car.mass(t);
            case 2: return car.minutes(t);
            case 3: return car.fare(s, t);
            case 4: return car instanceof Heavy h ? h.toll(t) : NO;
            default: return car instanceof Marked m ? m.danger(t) : NO;
        }
    }

    private int quiet(Car car, int what) {
        return answer(car, what, season, new ArrayList<>());
    }

    private int sum(int lane, int what) {
        return lanes.get(lane).stream().mapToInt(car -> quiet(car, what)).sum();
    }

    private boolean noVehicle(int vehicle) {
        return vehicle < 0 || vehicle >= all.size();
    }

    private static boolean noLane(int lane) {
        return lane < 0 || lane > 3;
    }

    private int lengthLeft(int lane) {
        return lengths[lane] - sum(lane, 0) - 5 * lanes.get(lane).size();
    }

    private int bearingLeft(int lane) {
        return bearings[lane] - sum(lane, 1);
    }

    private int laneOf(Car car) {
        for (int lane = 0; lane < 4; lane++) {
            if (lanes.get(lane).contains(car)) {
                return lane;
            }
        }
        return NONE;
    }

    private int howMany(int how) {
        return (int) all.stream().filter(car -> car.how == how).count();
    }

    int vehicle(int kind, int size, int load) {
        if (kind < 0 || kind > 6 || size < 10 || size > 200 || load < 0 || load > 40000) {
            return BAD;
        }
        if (all.size() == 60) {
            return FULL;
        }
        Car car = make(kind);
        car.kind = kind;
        car.size = size;
        car.load = load;
        all.add(car);
        return all.size() - 1;
    }

    int ask(int vehicle, int what, int s) {
        if (noVehicle(vehicle) || what < 0 || what > 5 || what == 3 && (s < 0 || s > 3)) {
            return BAD;
        }
        trace = new ArrayList<>();
        return answer(all.get(vehicle), what, s, trace);
    }

    int trace(int i) {
        return i < 0 || i >= trace.size() ? NONE : trace.get(i);
    }

    int lane(int lane, int length, int bearing) {
        if (noLane(lane) || length < 0 || length > 2000 || bearing < 0 || bearing > 200000) {
            return BAD;
        }
        if (!lanes.get(lane).isEmpty()) {
            return NO;
        }
        lengths[lane] = length;
        bearings[lane] = bearing;
        return 1;
    }

    int season(int s) {
        if (s < 0 || s > 3) {
            return BAD;
        }
        int was = season;
        season = s;
        return was;
    }

    int board(int vehicle, int lane) {
        if (noVehicle(vehicle) || noLane(lane)) {
            return BAD;
        }
        Car car = all.get(vehicle);
        if (car.how != 0) {
            return NO;
        }
        if (quiet(car, 0) + 5 > lengthLeft(lane) || quiet(car, 1) > bearingLeft(lane)) {
            return FULL;
        }
        List<Car> row = lanes.get(lane);
        if (!row.isEmpty()) {
            Car last = row.get(row.size() - 1);
            if (last instanceof Marked && car instanceof Marked && quiet(last, 5) + quiet(car, 5) > 5) {
                return NEAR;
            }
        }
        car.paid = quiet(car, 3) + (car instanceof Heavy ? quiet(car, 4) : 0);
        car.how = 1;
        row.add(car);
        till += car.paid;
        return car.paid;
    }

    int off(int lane) {
        if (noLane(lane)) {
            return BAD;
        }
        List<Car> row = lanes.get(lane);
        if (row.isEmpty()) {
            return NO;
        }
        Car car = row.remove(row.size() - 1);
        int given = car.paid;
        car.how = 0;
        car.paid = 0;
        till -= given;
        return given;
    }

    int sail() {
        int left = sum(0, 1) + sum(1, 1);
        int right = sum(2, 1) + sum(3, 1);
        if (howMany(1) == 0 || left - right > 30000 || right - left > 30000) {
            return NO;
        }
        int most = 0;
        for (int lane = 0; lane < 4; lane++) {
            most = Math.max(most, sum(lane, 2));
            lanes.get(lane).forEach(car -> car.how = 2);
            lanes.get(lane).clear();
        }
        sailed++;
        return most + 30;
    }

    int back(int vehicle) {
        if (noVehicle(vehicle)) {
            return BAD;
        }
        if (all.get(vehicle).how != 2) {
            return NO;
        }
        all.get(vehicle).how = 0;
        return 1;
    }

    int told(int vehicle, int what) {
        if (noVehicle(vehicle)) {
            return BAD;
        }
        Car car = all.get(vehicle);
        int lane = laneOf(car);
        switch (what) {
            case 0: return car.kind;
            case 1: return car.how;
            case 2: return lane;
            case 3: return lane == NONE ? NONE : lanes.get(lane).indexOf(car);
            case 4: return car.paid;
            case 5: return car instanceof Heavy ? 1 : 0;
            case 6: return car instanceof Marked ? 1 : 0;
            default: return BAD;
        }
    }

    int deck(int lane, int what) {
        if (noLane(lane)) {
            return BAD;
        }
        List<Car> row = lanes.get(lane);
        switch (what) {
            case 0: return lengthLeft(lane);
            case 1: return bearingLeft(lane);
            case 2: return row.size();
            case 3: return sum(lane, 2);
            case 4: return row.isEmpty() ? NONE : all.indexOf(row.get(0));
            case 5: return row.isEmpty() ? NONE : all.indexOf(row.get(row.size() - 1));
            default: return BAD;
        }
    }

    int count(int what) {
        switch (what) {
            case 0: return all.size();
            case 1: return howMany(0);
            case 2: return howMany(1);
            case 3: return howMany(2);
            case 4: return sailed;
            case 5: return season;
            default: return BAD;
        }
    }

    long till() {
        return till;
    }
}
