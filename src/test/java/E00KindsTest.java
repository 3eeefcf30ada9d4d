/** Terms, part 1: which kinds are heavy and marked, the answers at the limits of size and load, where / cuts. */
public final class E00KindsTest {
    private static final int NO = FerryDeck.NO;

    public static void main(String[] args) {
        Check check = new Check();
        heavyAreTrucksCoachesAndThoseBelow(check);
        markedAreTankersCampersAndThoseBelow(check);
        answersAtTheLimits(check);
        lengthByFiftyIsCut(check);
        loadByFourIsCut(check);
        massOfATrainByAHundredIsCut(check);
        aTenthOfACoachsFareIsCut(check);
        massByTwoHundredIsCut(check);
        massOfATankerByAHundredIsCut(check);
        minutesByFourIsCut(check);
        lengthOfACoachByAHundredIsCut(check);
        check.finish();
    }

    private static FerryDeck one(int kind, int size, int load) {
        FerryDeck deck = new FerryDeck();
        deck.vehicle(kind, size, load);
        return deck;
    }

    private static void asked(Check check, int kind, int size, int load, int what, int due) {
        String call = "ask(0, " + what + ", 0) of vehicle(" + kind + ", " + size + ", " + load + ")";
        check.due(call, one(kind, size, load).ask(0, what, 0), due);
    }

    /** "HEAVY are TRUCKS, COACHES and those below them": not the vans and campers right above, nor the cars. */
    private static void heavyAreTrucksCoachesAndThoseBelow(Check check) {
        int[] heavy = {0, 0, 1, 1, 1, 0, 1};
        int[] tolls = {NO, NO, 10, 320, 320, NO, 51};
        for (int kind = 0; kind < 7; kind++) {
            check.due("kind " + kind + " heavy", one(kind, 10, 0).told(0, 5), heavy[kind]);
            check.due("kind " + kind + " toll", one(kind, 10, 0).ask(0, 4, 0), tolls[kind]);
        }
    }

    /** "MARKED are TANKERS, CAMPERS and those below them": not the trucks and cars right above, nor the vans. */
    private static void markedAreTankersCampersAndThoseBelow(Check check) {
        int[] marked = {0, 0, 0, 1, 1, 1, 1};
        int[] dangers = {NO, NO, NO, 1, 2, 1, 2};
        for (int kind = 0; kind < 7; kind++) {
            check.due("kind " + kind + " marked", one(kind, 10, 0).told(0, 6), marked[kind]);
            check.due("kind " + kind + " danger", one(kind, 10, 0).ask(0, 5, 0), dangers[kind]);
        }
    }

    /** By kind: length, mass, minutes, the fares in the seasons 0 to 3, toll, danger. */
    private static void answersAtTheLimits(Check check) {
        answersOf(check, 10, 0, new int[][] {
            {10, 1200, 1, 600, 610, 620, 630, NO, NO},
            {10, 2000, 1, 600, 630, 660, 690, NO, NO},
            {20, 2000, 1, 700, 740, 780, 820, 10, NO},
            {20, 2000, 1, 1400, 1480, 1560, 1640, 320, 1},
            {40, 2000, 7, 1820, 1940, 2060, 2180, 320, 2},
            {10, 1200, 1, 600, 610, 620, 630, NO, 1},
            {15, 10200, 1, 585, 599, 612, 626, 51, 2},
        });
        answersOf(check, 200, 0, new int[][] {
            {200, 1200, 5, 2500, 2700, 2900, 3100, NO, NO},
            {200, 2000, 5, 2500, 2720, 2940, 3160, NO, NO},
            {210, 2000, 5, 2600, 2830, 3060, 3290, 10, NO},
            {210, 2000, 5, 5200, 5660, 6120, 6580, 320, 2},
            {420, 2000, 15, 9420, 10300, 11180, 12060, 320, 4},
            {200, 1200, 5, 2500, 2700, 2900, 3100, NO, 2},
            {205, 10200, 5, 2295, 2480, 2664, 2849, 51, 4},
        });
        answersOf(check, 10, 40000, new int[][] {
            {10, 41200, 1, 600, 610, 620, 630, NO, NO},
            {10, 42000, 1, 600, 630, 660, 690, NO, NO},
            {20, 42000, 1, 700, 740, 780, 820, 210, NO},
            {20, 52000, 1, 1400, 1480, 1560, 1640, 820, 1},
            {40, 52000, 7, 2320, 2440, 2560, 2680, 820, 2},
            {10, 41200, 1, 600, 610, 620, 630, NO, 1},
            {15, 50200, 1, 585, 599, 612, 626, 251, 2},
        });
        answersOf(check, 200, 40000, new int[][] {
            {200, 41200, 5, 2500, 2700, 2900, 3100, NO, NO},
            {200, 42000, 5, 2500, 2720, 2940, 3160, NO, NO},
            {210, 42000, 5, 2600, 2830, 3060, 3290, 210, NO},
            {210, 52000, 5, 5200, 5660, 6120, 6580, 820, 2},
            {420, 52000, 15, 9920, 10800, 11680, 12560, 820, 4},
            {200, 41200, 5, 2500, 2700, 2900, 3100, NO, 2},
            {205, 50200, 5, 2295, 2480, 2664, 2849, 251, 4},
        });
    }

    private static void answersOf(Check check, int size, int load, int[][] due) {
        for (int kind = 0; kind < 7; kind++) {
            FerryDeck deck = one(kind, size, load);
            String of = " of vehicle(" + kind + ", " + size + ", " + load + ")";
            int[] row = due[kind];
            check.due("length" + of, deck.ask(0, 0, 0), row[0]);
            check.due("mass" + of, deck.ask(0, 1, 0), row[1]);
            check.due("minutes" + of, deck.ask(0, 2, 0), row[2]);
            for (int s = 0; s < 4; s++) {
                check.due("fare in season " + s + of, deck.ask(0, 3, s), row[3 + s]);
            }
            check.due("toll" + of, deck.ask(0, 4, 0), row[7]);
            check.due("danger" + of, deck.ask(0, 5, 0), row[8]);
        }
    }

    /** "/ is cut", body 21: the last length ahead of each step, and the step. */
    private static void lengthByFiftyIsCut(Check check) {
        int[] steps = {50, 100, 150, 200};
        for (int i = 0; i < steps.length; i++) {
            asked(check, Edge.CAR, steps[i] - 1, 0, 2, 1 + i);
            asked(check, Edge.CAR, steps[i], 0, 2, 2 + i);
        }
        // ITS OWN length: a truck is 10 longer than its size, a coach 5, a train as long as two trucks
        asked(check, Edge.TRUCK, 39, 0, 2, 1);
        asked(check, Edge.TRUCK, 40, 0, 2, 2);
        asked(check, Edge.COACH, 44, 0, 2, 1);
        asked(check, Edge.COACH, 45, 0, 2, 2);
        asked(check, Edge.TRAIN, 14, 0, 2, 7);
        asked(check, Edge.TRAIN, 15, 0, 2, 8);
    }

    /** "/ is cut", body 13. */
    private static void loadByFourIsCut(Check check) {
        int[] kinds = {Edge.TANKER, Edge.TRAIN};
        for (int kind : kinds) {
            asked(check, kind, 10, 3, 1, 2003);
            asked(check, kind, 10, 4, 1, 2005);
            asked(check, kind, 10, 7, 1, 2008);
            asked(check, kind, 10, 8, 1, 2010);
            asked(check, kind, 10, 39999, 1, 51998);
            asked(check, kind, 10, 40000, 1, 52000);
        }
    }

    /** "/ is cut", body 34: a train of mass 2098, and one of 2100. */
    private static void massOfATrainByAHundredIsCut(Check check) {
        asked(check, Edge.TRAIN, 10, 79, 3, 1820);
        asked(check, Edge.TRAIN, 10, 80, 3, 1821);
    }

    /** "/ is cut", body 35: fares of 799, 760 and 721 by body 31. */
    private static void aTenthOfACoachsFareIsCut(Check check) {
        check.due("less a tenth of 799", one(Edge.COACH, 18, 0).ask(0, 3, 3), 720);
        check.due("less a tenth of 760", one(Edge.COACH, 15, 0).ask(0, 3, 3), 684);
        check.due("less a tenth of 721", one(Edge.COACH, 12, 0).ask(0, 3, 3), 649);
    }

    /** "/ is cut", body 41: masses of 2199 and 2200, of 10399 and 10400. */
    private static void massByTwoHundredIsCut(Check check) {
        asked(check, Edge.TRUCK, 10, 199, 4, 10);
        asked(check, Edge.TRUCK, 10, 200, 4, 11);
        asked(check, Edge.COACH, 10, 199, 4, 51);
        asked(check, Edge.COACH, 10, 200, 4, 52);
    }

    /** "/ is cut", body 42: masses of 2098 and 2100. */
    private static void massOfATankerByAHundredIsCut(Check check) {
        int[] kinds = {Edge.TANKER, Edge.TRAIN};
        for (int kind : kinds) {
            asked(check, kind, 10, 79, 4, 320);
            asked(check, kind, 10, 80, 4, 321);
        }
    }

    /** "/ is cut", body 51: 3 and 4 minutes, 7 and 8, 11 and 12. */
    private static void minutesByFourIsCut(Check check) {
        asked(check, Edge.CAMPER, 149, 0, 5, 1);
        asked(check, Edge.CAMPER, 150, 0, 5, 2);
        asked(check, Edge.TANKER, 139, 0, 5, 1);
        asked(check, Edge.TANKER, 140, 0, 5, 2);
        asked(check, Edge.TRAIN, 14, 0, 5, 2);
        asked(check, Edge.TRAIN, 15, 0, 5, 3);
        asked(check, Edge.TRAIN, 114, 0, 5, 3);
        asked(check, Edge.TRAIN, 115, 0, 5, 4);
    }

    /** "/ is cut", body 52: lengths of 99 and 100, of 199 and 200. */
    private static void lengthOfACoachByAHundredIsCut(Check check) {
        asked(check, Edge.COACH, 94, 0, 5, 2);
        asked(check, Edge.COACH, 95, 0, 5, 3);
        asked(check, Edge.COACH, 194, 0, 5, 3);
        asked(check, Edge.COACH, 195, 0, 5, 4);
    }
}
