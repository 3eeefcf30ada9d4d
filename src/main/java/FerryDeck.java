/** A ferry's deck: vehicles that answer by their kinds, four lanes, boarding, sailing and the till. */
public final class FerryDeck {
    public static final int NONE = -1, BAD = -2, NO = -3, FULL = -4, NEAR = -5;

    private static final int LENGTH = 0, MASS = 1, MINUTES = 2, FARE = 3, TOLL = 4, DANGER = 5;
    private static final int WHATS = 6;
    private static final int KINDS = 7;
    private static final int WAITS = 0, ON_DECK = 1, ABROAD = 2;

    private static final int MOST_VEHICLES = 60;
    private static final int LEAST_SIZE = 10, MOST_SIZE = 200;
    private static final int MOST_LOAD = 40000;
    private static final int LANES = 4;
    private static final int MOST_LENGTH = 2000;
    private static final int MOST_BEARING = 200000;
    private static final int LAST_SEASON = 3;

    private static final int GAP = 5;
    private static final int MOST_DANGER = 5;
    private static final int MOST_APART = 30000;
    private static final int MINUTES_AT_SEA = 30;

    private final Vehicle[] vehicles = new Vehicle[MOST_VEHICLES];
    private int vehicleCount = 0;
    private final Lane[] lanes = new Lane[LANES];
    private final Answers answers = new Answers();
    private int season = 0;
    private int sailings = 0;
    private long till = 0;

    public FerryDeck() {
        for (int i = 0; i < LANES; i++) {
            lanes[i] = new Lane(i);
        }
    }

    public int vehicle(int kind, int size, int load) {
        if (!within(kind, 0, KINDS - 1) || !within(size, LEAST_SIZE, MOST_SIZE) || !within(load, 0, MOST_LOAD)) {
            return BAD;
        }
        if (vehicleCount >= MOST_VEHICLES) {
            return FULL;
        }
        Vehicle made = new Vehicle(vehicleCount, kind, size, load);
        measure(made);
        vehicles[vehicleCount] = made;
        vehicleCount++;
        return made.number;
    }

    public int ask(int vehicle, int what, int s) {
        Vehicle asked = vehicleAt(vehicle);
        if (asked == null || !within(what, 0, WHATS - 1)) {
            return BAD;
        }
        if (what == FARE && !within(s, 0, LAST_SEASON)) {
            return BAD;
        }
        return answers.answerTraced(asked, what, s);
    }

    public int trace(int i) {
        return answers.traceAt(i);
    }

    public int lane(int lane, int length, int bearing) {
        Lane changed = laneAt(lane);
        if (changed == null || !within(length, 0, MOST_LENGTH) || !within(bearing, 0, MOST_BEARING)) {
            return BAD;
        }
        if (changed.standing > 0) {
            return NO;
        }
        changed.length = length;
        changed.bearing = bearing;
        return 1;
    }

    public int season(int s) {
        if (!within(s, 0, LAST_SEASON)) {
            return BAD;
        }
        int before = season;
        season = s;
        return before;
    }

    public int board(int vehicle, int lane) {
        Vehicle boarding = vehicleAt(vehicle);
        Lane onto = laneAt(lane);
        if (boarding == null || onto == null) {
            return BAD;
        }
        if (boarding.how != WAITS) {
            return NO;
        }
        if (!onto.hasRoomFor(boarding)) {
            return FULL;
        }
        if (tooNear(onto.last, boarding)) {
            return NEAR;
        }
        int pays = price(boarding);
        onto.append(boarding);
        boarding.paid = pays;
        till += pays;
        return pays;
    }

    public int off(int lane) {
        Lane from = laneAt(lane);
        if (from == null) {
            return BAD;
        }
        Vehicle leaving = from.last;
        if (leaving == null) {
            return NO;
        }
        from.removeLast(WAITS);
        int given = leaving.paid;
        leaving.paid = 0;
        till -= given;
        return given;
    }

    public int sail() {
        if (countOf(ON_DECK) == 0 || Math.abs(apart()) > MOST_APART) {
            return NO;
        }
        int minutes = longestMinutes() + MINUTES_AT_SEA;
        for (Lane lane : lanes) {
            lane.sendAbroad();
        }
        sailings++;
        return minutes;
    }

    public int back(int vehicle) {
        Vehicle coming = vehicleAt(vehicle);
        if (coming == null) {
            return BAD;
        }
        if (coming.how != ABROAD) {
            return NO;
        }
        coming.how = WAITS;
        return 1;
    }

    public int told(int vehicle, int what) {
        Vehicle of = vehicleAt(vehicle);
        if (of == null) {
            return BAD;
        }
        switch (what) {
            case 0: return of.kind;
            case 1: return of.how;
            case 2: return of.lane;
            case 3: return of.place;
            case 4: return of.paid;
            case 5: return of.isHeavy() ? 1 : 0;
            case 6: return of.isMarked() ? 1 : 0;
            default: return BAD;
        }
    }

    public int deck(int lane, int what) {
        Lane of = laneAt(lane);
        if (of == null) {
            return BAD;
        }
        switch (what) {
            case 0: return of.lengthLeft();
            case 1: return of.bearingLeft();
            case 2: return of.standing;
            case 3: return of.minutes;
            case 4: return numberOf(of.first);
            case 5: return numberOf(of.last);
            default: return BAD;
        }
    }

    public int count(int what) {
        switch (what) {
            case 0: return vehicleCount;
            case 1: return countOf(WAITS);
            case 2: return countOf(ON_DECK);
            case 3: return countOf(ABROAD);
            case 4: return sailings;
            case 5: return season;
            default: return BAD;
        }
    }

    public long till() {
        return till;
    }

    private static boolean within(int number, int least, int most) {
        return number >= least && number <= most;
    }

    private Vehicle vehicleAt(int number) {
        return within(number, 0, vehicleCount - 1) ? vehicles[number] : null;
    }

    private Lane laneAt(int number) {
        return within(number, 0, LANES - 1) ? lanes[number] : null;
    }

    private static int numberOf(Vehicle v) {
        return v == null ? NONE : v.number;
    }

    private int countOf(int how) {
        int found = 0;
        for (int i = 0; i < vehicleCount; i++) {
            Vehicle v = vehicleAt(i);
            if (v != null && v.how == how) {
                found++;
            }
        }
        return found;
    }

    /** Only the fare hangs on the season: what else it answers stays as it is now. */
    private void measure(Vehicle v) {
        v.length = answers.answer(v, LENGTH, 0);
        v.mass = answers.answer(v, MASS, 0);
        v.minutes = answers.answer(v, MINUTES, 0);
        v.toll = answers.answer(v, TOLL, 0);
        v.danger = answers.answer(v, DANGER, 0);
    }

    private int price(Vehicle v) {
        int fare = answers.answer(v, FARE, season);
        return v.isHeavy() ? fare + v.toll : fare;
    }

    private static boolean tooNear(Vehicle last, Vehicle behind) {
        if (last == null || !last.isMarked() || !behind.isMarked()) {
            return false;
        }
        return last.danger + behind.danger > MOST_DANGER;
    }

    /** How much more the lanes 0 and 1 carry than 2 and 3; below 0 if they carry less. */
    private int apart() {
        int difference = 0;
        for (int i = 0; i < LANES; i++) {
            int carried = lanes[i].carried;
            difference += i < 2 ? carried : -carried;
        }
        return difference;
    }

    private int longestMinutes() {
        int most = 0;
        for (Lane lane : lanes) {
            most = Math.max(most, lane.minutes);
        }
        return most;
    }

    private static final class Vehicle {
        final int number;
        final int kind;
        final int size;
        final int load;
        int length = 0;
        int mass = 0;
        int minutes = 0;
        int toll = NO;
        int danger = NO;
        int how = WAITS;
        int lane = NONE;
        int place = NONE;
        Vehicle ahead = null;
        int paid = 0;

        Vehicle(int number, int kind, int size, int load) {
            this.number = number;
            this.kind = kind;
            this.size = size;
            this.load = load;
        }

        boolean isHeavy() {
            return toll != NO;
        }

        boolean isMarked() {
            return danger != NO;
        }

        /** What it paid stays: only going off gives it back. */
        void leaveDeck(int becomes) {
            how = becomes;
            lane = NONE;
            place = NONE;
            ahead = null;
        }
    }

    /** The vehicles stand as a chain from the last to the first. */
    private static final class Lane {
        final int number;
        int length = 0;
        int bearing = 0;
        int taken = 0;
        int carried = 0;
        int minutes = 0;
        int standing = 0;
        Vehicle first = null;
        Vehicle last = null;

        Lane(int number) {
            this.number = number;
        }

        int lengthLeft() {
            return length - taken;
        }

        int bearingLeft() {
            return bearing - carried;
        }

        boolean hasRoomFor(Vehicle v) {
            return v.length + GAP <= lengthLeft() && v.mass <= bearingLeft();
        }

        void append(Vehicle v) {
            v.how = ON_DECK;
            v.lane = number;
            v.place = standing;
            v.ahead = last;
            last = v;
            if (first == null) {
                first = v;
            }
            standing++;
            taken += v.length + GAP;
            carried += v.mass;
            minutes += v.minutes;
        }

        void removeLast(int becomes) {
            Vehicle leaving = last;
            if (leaving == null) {
                return;
            }
            last = leaving.ahead;
            if (last == null) {
                first = null;
            }
            standing--;
            taken -= leaving.length + GAP;
            carried -= leaving.mass;
            minutes -= leaving.minutes;
            leaving.leaveDeck(becomes);
        }

        void sendAbroad() {
            for (int left = standing; left > 0; left--) {
                removeLast(ABROAD);
            }
        }
    }

    /** The bodies by number, who answers by which, and the trace that they leave. */
    private static final class Answers {
        private static final int[] ABOVE = {NONE, 0, 1, 2, 3, 0, 5};

        private static final int NO_BODY = 0;

        /**
         * A row for each what, a column for each kind: the body told for that very kind.
         * A body "of all" heavy or marked ones stands at the topmost of these kinds, so that
         * the kinds which find no toll (no danger) are just those that are not heavy (marked).
         */
        private static final int[] TOLD_BODIES = {
            // car, van, truck, tanker, train, camper, coach
            1, 0, 2, 0, 3, 0, 4,
            11, 12, 0, 13, 0, 0, 14,
            21, 0, 0, 0, 22, 0, 0,
            31, 32, 0, 33, 34, 0, 35,
            0, 0, 41, 42, 0, 0, 41,
            0, 0, 0, 51, 0, 51, 52,
        };

        /** The longest trace, of a train's fare, has 10 numbers. */
        private static final int MOST_TRACED = 10;

        /** A train's fare goes 7 bodies deep; nothing goes deeper. */
        private static final int DEEPEST = 16;

        private final int[] trace = new int[MOST_TRACED];
        private int traceLength = 0;
        private boolean tracing = false;
        private int askedKind = 0;
        private int askedSize = 0;
        private int askedLoad = 0;
        private int askedSeason = 0;

        /** NO: there is no body for it. Leaves nothing in the trace unless answerTraced() asks. */
        int answer(Vehicle v, int what, int s) {
            askedKind = v.kind;
            askedSize = v.size;
            askedLoad = v.load;
            askedSeason = s;
            return own(what, 0);
        }

        int answerTraced(Vehicle v, int what, int s) {
            traceLength = 0;
            tracing = true;
            int answered = answer(v, what, s);
            tracing = false;
            return answered;
        }

        int traceAt(int i) {
            return within(i, 0, traceLength - 1) ? trace[i] : NONE;
        }

        private int own(int what, int depth) {
            return answerAs(askedKind, what, depth);
        }

        private int above(int teller, int what, int depth) {
            return within(teller, 0, KINDS - 1) ? answerAs(ABOVE[teller], what, depth) : NO;
        }

        private int answerAs(int kind, int what, int depth) {
            int teller = tellerOf(kind, what);
            if (teller == NONE || depth >= DEEPEST) {
                return NO;
            }
            return byBody(bodyOf(teller, what), teller, what, depth + 1);
        }

        /** The kind itself or the nearest above for which a body is told; NONE. */
        private static int tellerOf(int kind, int what) {
            int teller = kind;
            for (int step = 0; step < KINDS && within(teller, 0, KINDS - 1); step++) {
                if (bodyOf(teller, what) != NO_BODY) {
                    return teller;
                }
                teller = ABOVE[teller];
            }
            return NONE;
        }

        private static int bodyOf(int kind, int what) {
            int at = what * KINDS + kind;
            return at >= 0 && at < TOLD_BODIES.length ? TOLD_BODIES[at] : NO_BODY;
        }

        private void leave(int body) {
            if (tracing && traceLength < MOST_TRACED) {
                trace[traceLength] = body;
                traceLength++;
            }
        }

        /** The numbers here are the document's, body by body. */
        private int byBody(int body, int teller, int what, int depth) {
            leave(body);
            switch (body) {
                case 1: return askedSize;
                case 2: return above(teller, what, depth) + 10;
                case 3: return 2 * above(teller, what, depth);
                case 4: return above(teller, what, depth) + 5;

                case 11: return 1200 + askedLoad;
                case 12: return above(teller, what, depth) + 800;
                case 13: return above(teller, what, depth) + askedLoad / 4;
                case 14: return above(teller, what, depth) + 9000;

                case 21: return 1 + own(LENGTH, depth) / 50;
                case 22: return above(teller, what, depth) + 6;

                case 31: return 500 + own(LENGTH, depth) * (10 + askedSeason);
                case 32: return above(teller, what, depth) + 20 * askedSeason;
                case 33: return 2 * above(teller, what, depth);
                case 34: return above(teller, what, depth) + own(MASS, depth) / 100;
                case 35: return lessATenth(above(teller, what, depth));

                case 41: return own(MASS, depth) / 200;
                case 42: return own(MASS, depth) / 100 + 300;

                case 51: return 1 + own(MINUTES, depth) / 4;
                case 52: return 2 + own(LENGTH, depth) / 100;

                default: return NO;
            }
        }

        private static int lessATenth(int fare) {
            return fare - fare / 10;
        }
    }
}
