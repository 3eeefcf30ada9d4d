/** Terms, part 1: each body by its number, and the sentences that say who answers by which. */
public final class E00BodiesTest {
    private static final int LENGTH = 0, MASS = 1, MINUTES = 2, FARE = 3, TOLL = 4, DANGER = 5;
    private static final int NONE = FerryDeck.NONE;

    public static void main(String[] args) {
        Check check = new Check();
        bodyOfItsKindElseOfTheNearestAbove(check);
        asAboveGoesOnFromTheKindOfTheBody(check);
        itsOwnIsOfTheVehicleItself(check);
        numberIsLeftAsTheBodyBegins(check);
        lengths(check);
        masses(check);
        minutes(check);
        fares(check);
        tolls(check);
        dangers(check);
        check.finish();
    }

    /** A vehicle alone on a new deck is asked: what it answers in season 0, and by which bodies. */
    private static void asked(Check check, int kind, int size, int load, int what, int due, int... trace) {
        askedInSeason(check, 0, kind, size, load, what, due, trace);
    }

    private static void askedInSeason(
            Check check, int s, int kind, int size, int load, int what, int due, int... trace) {
        FerryDeck deck = new FerryDeck();
        deck.vehicle(kind, size, load);
        String call = "ask(0, " + what + ", " + s + ") of vehicle(" + kind + ", " + size + ", " + load + ")";
        check.due(call, deck.ask(0, what, s), due);
        check.trace(call, deck, trace);
    }

    /** "A VEHICLE answers by the BODY told for its KIND, else by that for the nearest KIND above." */
    private static void bodyOfItsKindElseOfTheNearestAbove(Check check) {
        int[][] first = {
            {1, 1, 2, 2, 3, 1, 4},
            {11, 12, 12, 13, 13, 11, 14},
            {21, 21, 21, 21, 22, 21, 21},
            {31, 32, 32, 33, 34, 31, 35},
            {NONE, NONE, 41, 42, 42, NONE, 41},
            {NONE, NONE, NONE, 51, 51, 51, 52},
        };
        for (int what = 0; what < 6; what++) {
            for (int kind = 0; kind < 7; kind++) {
                FerryDeck deck = new FerryDeck();
                deck.vehicle(kind, 60, 3000);
                deck.ask(0, what, 1);
                check.due("the body of kind " + kind + " for " + what, deck.trace(0), first[what][kind]);
            }
        }
    }

    /**
     * "AS ABOVE in a BODY is what the KIND right above that one's answers (by its own BODY, or the nearest above
     * it)": that one is the kind for which the body is told, not the vehicle's.
     */
    private static void asAboveGoesOnFromTheKindOfTheBody(Check check) {
        // by its own body: the tanker's 33 right above the train's 34, the car's 11 right above the van's 12
        asked(check, Edge.TRAIN, 60, 3000, FARE, 3857, 34, 33, 32, 31, 3, 2, 1, 13, 12, 11);
        asked(check, Edge.VAN, 60, 3000, MASS, 5000, 12, 11);
        // by the nearest above it: no body for a van's or a tanker's length is told
        asked(check, Edge.TRUCK, 60, 3000, LENGTH, 70, 2, 1);
        asked(check, Edge.TRAIN, 60, 3000, LENGTH, 140, 3, 2, 1);
        // a train answers by the tanker's body 13, whose AS ABOVE is the truck's, not the tanker's once more
        asked(check, Edge.TRAIN, 60, 3000, MASS, 5750, 13, 12, 11);
        // a truck answers by the van's body 32, whose AS ABOVE is the car's
        asked(check, Edge.TRUCK, 60, 3000, FARE, 1200, 32, 31, 2, 1);
        // the camper right above the coach has none: no van stands between the coach and the car
        asked(check, Edge.COACH, 60, 3000, MASS, 13200, 14, 11);
        asked(check, Edge.COACH, 60, 3000, FARE, 1035, 35, 31, 4, 1);
    }

    /** "ITS OWN in a BODY is what the VEHICLE itself answers", be the body of a kind above or not. */
    private static void itsOwnIsOfTheVehicleItself(Check check) {
        // the car's body 21 takes a length of 50, 100 and 50, not the sizes of 40, 40 and 45
        asked(check, Edge.TRUCK, 40, 3000, MINUTES, 2, 21, 2, 1);
        asked(check, Edge.TRAIN, 40, 3000, MINUTES, 9, 22, 21, 3, 2, 1);
        asked(check, Edge.COACH, 45, 3000, MINUTES, 2, 21, 4, 1);
        // the car's body 31 takes a length of 100
        asked(check, Edge.TRAIN, 40, 0, FARE, 3020, 34, 33, 32, 31, 3, 2, 1, 13, 12, 11);
        // body 41 takes the mass of the coach, the tanker's body 42 that of the train
        asked(check, Edge.COACH, 60, 3000, TOLL, 66, 41, 14, 11);
        asked(check, Edge.TRAIN, 60, 3000, TOLL, 357, 42, 13, 12, 11);
        // body 51 takes the train's minutes, 6 more than by its length alone
        asked(check, Edge.TRAIN, 40, 3000, DANGER, 3, 51, 22, 21, 3, 2, 1);
    }

    /** "Each BODY leaves its number in THE TRACE as it begins": ahead of those that it asks, in their order. */
    private static void numberIsLeftAsTheBodyBegins(Check check) {
        asked(check, Edge.CAR, 60, 3000, MINUTES, 2, 21, 1);
        asked(check, Edge.VAN, 60, 3000, MASS, 5000, 12, 11);
        // "AS ABOVE, and then ITS OWN MASS": the fare ahead of the mass, the length where body 31 asks for it
        asked(check, Edge.TRAIN, 60, 3000, FARE, 3857, 34, 33, 32, 31, 3, 2, 1, 13, 12, 11);
    }

    private static void lengths(Check check) {
        // "1 of CARS: SIZE."
        asked(check, Edge.CAR, 60, 3000, LENGTH, 60, 1);
        asked(check, Edge.VAN, 137, 3000, LENGTH, 137, 1);
        asked(check, Edge.CAMPER, 60, 3000, LENGTH, 60, 1);
        // "2 of TRUCKS: AS ABOVE, and 10."
        asked(check, Edge.TRUCK, 137, 3000, LENGTH, 147, 2, 1);
        asked(check, Edge.TANKER, 60, 3000, LENGTH, 70, 2, 1);
        // "3 of TRAINS: twice AS ABOVE."
        asked(check, Edge.TRAIN, 137, 3000, LENGTH, 294, 3, 2, 1);
        // "4 of COACHES: AS ABOVE, and 5."
        asked(check, Edge.COACH, 137, 3000, LENGTH, 142, 4, 1);
    }

    private static void masses(Check check) {
        // "11 of CARS: 1200 and LOAD."
        asked(check, Edge.CAR, 60, 0, MASS, 1200, 11);
        asked(check, Edge.CAR, 60, 777, MASS, 1977, 11);
        asked(check, Edge.CAMPER, 60, 3000, MASS, 4200, 11);
        // "12 of VANS: AS ABOVE, and 800."
        asked(check, Edge.VAN, 60, 777, MASS, 2777, 12, 11);
        asked(check, Edge.TRUCK, 60, 3000, MASS, 5000, 12, 11);
        // "13 of TANKERS: AS ABOVE, and LOAD / 4."
        asked(check, Edge.TANKER, 60, 777, MASS, 2971, 13, 12, 11);
        asked(check, Edge.TRAIN, 60, 3000, MASS, 5750, 13, 12, 11);
        // "14 of COACHES: AS ABOVE, and 9000."
        asked(check, Edge.COACH, 60, 777, MASS, 10977, 14, 11);
    }

    private static void minutes(Check check) {
        // "21 of CARS: 1, and ITS OWN LENGTH / 50."
        asked(check, Edge.CAR, 30, 3000, MINUTES, 1, 21, 1);
        asked(check, Edge.VAN, 137, 3000, MINUTES, 3, 21, 1);
        asked(check, Edge.TANKER, 140, 3000, MINUTES, 4, 21, 2, 1);
        asked(check, Edge.CAMPER, 137, 3000, MINUTES, 3, 21, 1);
        asked(check, Edge.COACH, 145, 3000, MINUTES, 4, 21, 4, 1);
        // "22 of TRAINS: AS ABOVE, and 6."
        asked(check, Edge.TRAIN, 60, 3000, MINUTES, 9, 22, 21, 3, 2, 1);
        asked(check, Edge.TRAIN, 137, 3000, MINUTES, 12, 22, 21, 3, 2, 1);
    }

    /** "FARE in a SEASON s", of a vehicle of size 60 and load 3000, in the seasons 0 to 3. */
    private static void fares(Check check) {
        // "31 of CARS: 500, and ITS OWN LENGTH times (10 and s)."
        fares(check, Edge.CAR, new int[] {1100, 1160, 1220, 1280}, 31, 1);
        fares(check, Edge.CAMPER, new int[] {1100, 1160, 1220, 1280}, 31, 1);
        // "32 of VANS: AS ABOVE, and 20 s."
        fares(check, Edge.VAN, new int[] {1100, 1180, 1260, 1340}, 32, 31, 1);
        fares(check, Edge.TRUCK, new int[] {1200, 1290, 1380, 1470}, 32, 31, 2, 1);
        // "33 of TANKERS: twice AS ABOVE."
        fares(check, Edge.TANKER, new int[] {2400, 2580, 2760, 2940}, 33, 32, 31, 2, 1);
        // "34 of TRAINS: AS ABOVE, and then ITS OWN MASS / 100."
        fares(check, Edge.TRAIN, new int[] {3857, 4177, 4497, 4817}, 34, 33, 32, 31, 3, 2, 1, 13, 12, 11);
        // "35 of COACHES: AS ABOVE, less a tenth of it."
        fares(check, Edge.COACH, new int[] {1035, 1094, 1152, 1211}, 35, 31, 4, 1);
    }

    private static void fares(Check check, int kind, int[] due, int... trace) {
        for (int s = 0; s < 4; s++) {
            askedInSeason(check, s, kind, 60, 3000, FARE, due[s], trace);
        }
    }

    /** "TOLL, of HEAVY ones". */
    private static void tolls(Check check) {
        int[] none = {Edge.CAR, Edge.VAN, Edge.CAMPER};
        for (int kind : none) {
            asked(check, kind, 60, 3000, TOLL, FerryDeck.NO);
        }
        // "41 of all: ITS OWN MASS / 200."
        asked(check, Edge.TRUCK, 60, 3000, TOLL, 25, 41, 12, 11);
        asked(check, Edge.COACH, 60, 3000, TOLL, 66, 41, 14, 11);
        asked(check, Edge.COACH, 60, 777, TOLL, 54, 41, 14, 11);
        // "42 of TANKERS: ITS OWN MASS / 100, and 300."
        asked(check, Edge.TANKER, 60, 3000, TOLL, 357, 42, 13, 12, 11);
        asked(check, Edge.TRAIN, 60, 777, TOLL, 329, 42, 13, 12, 11);
    }

    /** "DANGER, of MARKED ones". */
    private static void dangers(Check check) {
        int[] none = {Edge.CAR, Edge.VAN, Edge.TRUCK};
        for (int kind : none) {
            asked(check, kind, 60, 3000, DANGER, FerryDeck.NO);
        }
        // "51 of all: 1, and ITS OWN MINUTES / 4."
        asked(check, Edge.TANKER, 60, 3000, DANGER, 1, 51, 21, 2, 1);
        asked(check, Edge.TANKER, 160, 3000, DANGER, 2, 51, 21, 2, 1);
        asked(check, Edge.TRAIN, 137, 3000, DANGER, 4, 51, 22, 21, 3, 2, 1);
        asked(check, Edge.CAMPER, 60, 3000, DANGER, 1, 51, 21, 1);
        asked(check, Edge.CAMPER, 160, 3000, DANGER, 2, 51, 21, 1);
        // "52 of COACHES: 2, and ITS OWN LENGTH / 100."
        asked(check, Edge.COACH, 60, 3000, DANGER, 2, 52, 4, 1);
        asked(check, Edge.COACH, 160, 3000, DANGER, 3, 52, 4, 1);
    }
}
