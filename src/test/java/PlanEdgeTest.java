/** Each sentence on a bound of deliveries, crews, flights and the plan (Terms IV, promises 19 to 23). */
public final class PlanEdgeTest {
    public static void main(String[] args) {
        deliverBounds();
        atMostSeven();
        theSameMayBe();
        crewBounds();
        crewsThatAreTold();
        flightBounds();
        eitherWay();
        untoldFlights();
        aFlightTakesADay();
        withinOneNothing();
        fromADayOn();
        firstDayOnWhichItMay();
        lastDayOnWhichItMay();
        oneBehindTheOther();
        theMostDone();
        thenTheLeastSum();
        thenTheLeastRow();
        noneIsFour();
        leastRowOfDeliveries();
        sevenByOne();
        sevenByFour();
        noneMadeSince();
        refusedTellsNothing();
        plannedWhats();
        nothingToPlan();
        longDays();
        Check.finish();
    }

    private static void deliverBounds() {
        Check.sentence("Promise 19: RANGE: no such PORTS, days, begin (0 .. 999, to not below from)");
        Check.bounds(Desk::new, "deliver", -2, new int[] {0, 1, 1, 0, 999}, 0, 9, 0, 9, 1, 200, 0, 999, 0, 999);
        Check.run("Promise 19: to not below from", "deliver 0 1 1 5 4 = -2", "deliver 0 1 1 999 998 = -2", "deliver 0 1 1 1 0 = -2", "count 1 = 0",
            "deliver 0 1 1 5 5 = 0", "deliver 0 1 1 999 999 = 1", "deliver 0 1 1 0 0 = 2", "deliver 0 1 1 4 5 = 3");
        Check.run("Promise 19: RANGE tells none", "deliver 10 1 1 0 0 = -2", "deliver 0 1 201 0 0 = -2", "deliver 0 1 0 0 0 = -2", "count 1 = 0",
            "deliver 0 1 200 0 0 = 0", "count 1 = 1");
    }

    private static void atMostSeven() {
        Check.run("Terms IV: DELIVERIES, at most 7", "deliver 0 1 1 0 0 = 0", "deliver 0 1 1 0 0 = 1", "deliver 0 1 1 0 0 = 2", "deliver 0 1 1 0 0 = 3",
            "deliver 0 1 1 0 0 = 4", "deliver 0 1 1 0 0 = 5", "count 1 = 6", "deliver 0 1 1 0 0 = 6", "deliver 0 1 1 0 0 = -3", "count 1 = 7",
            "deliver 0 1 0 0 0 = -2", "deliver 0 1 1 0 0 = -3", "count 1 = 7", "plan = 0", "planned 16 = -1", "planned 17 = -9", "planned 26 = -1",
            "planned 27 = -9");
    }

    private static void theSameMayBe() {
        Check.run("Promise 19: the same may be", "deliver 4 4 3 0 0 = 0", "deliver 4 4 3 3 3 = 1", "crew 0 4 0 = 1", "plan = 2", "planned 0 = 0",
            "planned 20 = 0", "planned 21 = 3");
    }

    private static void crewBounds() {
        Check.sentence("Promise 20: RANGE");
        Check.bounds(Desk::new, "crew", -2, new int[] {0, 0, 0}, 0, 3, 0, 9, 0, 999);
        Check.run("Promise 20: a CREW told again stands anew", "crew 0 1 5 = 1", "crew 0 2 0 = 1", "count 2 = 1", "deliver 2 3 1 0 0 = 0", "plan = 1",
            "crew 0 1 0 = 1", "plan = 0", "crew 0 10 0 = -2", "crew 0 2 -1 = -2", "plan = 0", "crew 0 2 1 = 1", "plan = 0", "crew 0 2 0 = 1", "plan = 1");
    }

    private static void crewsThatAreTold() {
        for (int c = 0; c < 4; c++) {
            Check.run("Terms IV: CREWS 0 .. 3 that are told", "deliver 0 0 1 0 0 = 0", "plan = 0", "planned 10 = -1", "planned 20 = -1", "crew " + c + " 0 0 = 1",
                "count 2 = 1", "plan = 1", "planned 10 = " + c, "planned 20 = 0");
        }
        Check.run("Terms IV: an untold CREW does nothing", "deliver 0 0 5 0 0 = 0", "deliver 0 0 5 0 0 = 1", "deliver 0 0 5 0 0 = 2", "crew 1 0 0 = 1",
            "crew 3 0 0 = 1", "plan = 2", "planned 10 = 1", "planned 11 = 3", "planned 12 = -1");
    }

    private static void flightBounds() {
        Check.sentence("Promise 21: between two PORTS (unlike), cost 0 .. 10000 or NONE; RANGE");
        Check.bounds(Desk::new, "flight", -2, new int[] {5, 6, 5}, 0, 9, 0, 9, -1, 10000);
        for (int p = 0; p < 10; p++) {
            Check.run("Promise 21: unlike", "flight " + p + " " + p + " 5 = -2", "flight " + p + " " + p + " -1 = -2");
        }
        Check.run("Promise 21: what it cost (NONE)", "flight 0 9 0 = -1", "flight 0 9 10000 = 0", "flight 0 9 -1 = 10000", "flight 0 9 -1 = -1",
            "flight 0 9 7 = -1", "flight 0 9 10001 = -2", "flight 0 9 -2 = -2", "flight 0 9 1 = 7", "flight 0 8 1 = -1", "flight 1 9 1 = -1");
    }

    private static void eitherWay() {
        Check.run("Terms IV: FLIGHTS between two PORTS (either way)", "flight 2 7 30 = -1", "flight 7 2 40 = 30", "flight 2 7 -1 = 40", "flight 7 2 5 = -1",
            "crew 0 2 0 = 1", "deliver 7 7 1 0 9 = 0", "plan = 1", "planned 0 = 5", "crew 0 7 0 = 1", "plan = 1", "planned 0 = 0",
            "deliver 2 2 1 0 9 = 1", "plan = 2", "planned 0 = 5");
    }

    private static void untoldFlights() {
        Check.run("Terms IV: untold ones: none", "crew 0 0 0 = 1", "deliver 1 2 1 0 999 = 0", "plan = 0", "flight 0 1 0 = -1", "plan = 1", "planned 0 = 0",
            "flight 1 0 -1 = 0", "plan = 0", "planned 0 = 0", "planned 10 = -1");
    }

    private static void aFlightTakesADay() {
        Check.run("Terms IV: FLIGHTS take a day", "flight 0 1 3 = -1", "crew 0 0 10 = 1", "deliver 1 1 1 0 11 = 0", "plan = 1", "planned 20 = 11",
            "planned 0 = 3", "crew 0 0 11 = 1", "plan = 0", "crew 0 1 11 = 1", "plan = 1", "planned 20 = 11", "planned 0 = 0");
        Check.run("Terms IV: a FLIGHT on the last day comes too late", "flight 0 1 3 = -1", "crew 0 0 999 = 1", "deliver 1 1 1 0 999 = 0", "plan = 0",
            "crew 0 0 998 = 1", "plan = 1", "planned 20 = 999");
        Check.run("Terms IV: a FLIGHT for nothing takes a day, too", "flight 0 1 0 = -1", "crew 0 0 5 = 1", "deliver 1 1 1 0 9 = 0", "plan = 1",
            "planned 20 = 6", "planned 0 = 0");
    }

    private static void withinOneNothing() {
        Check.run("Terms IV: within one: nothing", "crew 0 3 7 = 1", "deliver 3 3 2 0 7 = 0", "deliver 3 3 2 0 9 = 1", "plan = 2", "planned 0 = 0",
            "planned 20 = 7", "planned 21 = 9");
    }

    private static void fromADayOn() {
        Check.run("Terms IV: stand at a PORT from a day on", "crew 0 0 7 = 1", "deliver 0 1 1 7 7 = 0", "plan = 1", "planned 20 = 7", "crew 0 0 8 = 1",
            "plan = 0", "crew 0 0 6 = 1", "plan = 1", "planned 20 = 7");
    }

    private static void firstDayOnWhichItMay() {
        Check.run("Terms IV: each begins on its first day on which it may and the CREW is there", "crew 0 0 0 = 1", "deliver 0 1 1 0 9 = 0", "plan = 1",
            "planned 20 = 0", "crew 0 0 4 = 1", "plan = 1", "planned 20 = 4", "crew 0 0 9 = 1", "plan = 1", "planned 20 = 9", "crew 0 0 10 = 1",
            "plan = 0");
        Check.run("Terms IV: not ahead of its first day", "crew 0 0 0 = 1", "deliver 0 1 1 999 999 = 0", "plan = 1", "planned 20 = 999");
    }

    private static void lastDayOnWhichItMay() {
        Check.run("Terms IV: to begin on a day from .. to", "crew 0 0 0 = 1", "deliver 0 0 6 0 0 = 0", "deliver 0 0 1 0 6 = 1", "plan = 2",
            "planned 20 = 0", "planned 21 = 6");
        Check.run("Terms IV: one day too late", "crew 0 0 0 = 1", "deliver 0 0 7 0 0 = 0", "deliver 0 0 1 1 6 = 1", "plan = 1", "planned 10 = 0",
            "planned 11 = -1");
        Check.run("Terms IV: it may end behind the last day", "crew 0 0 0 = 1", "deliver 0 0 200 5 5 = 0", "plan = 1", "planned 20 = 5");
    }

    private static void oneBehindTheOther() {
        Check.run("Terms IV: so many days (1 .. 200), one behind the other", "crew 0 0 0 = 1", "deliver 0 0 200 0 0 = 0", "deliver 0 0 1 0 200 = 1",
            "deliver 0 0 1 0 201 = 2", "plan = 3", "planned 20 = 0", "planned 21 = 200", "planned 22 = 201");
        Check.run("Terms IV: from where the one before ended", "crew 0 0 0 = 1", "deliver 0 5 3 0 0 = 0", "deliver 5 6 2 0 9 = 1", "plan = 2",
            "planned 21 = 3", "deliver 0 0 1 1 9 = 2", "plan = 2", "flight 6 0 8 = -1", "plan = 3", "planned 0 = 8", "planned 22 = 6");
    }

    private static void theMostDone() {
        Check.run("PLAN: the most DELIVERIES done", "crew 0 0 0 = 1", "flight 0 1 10000 = -1", "deliver 0 0 9 0 0 = 0", "deliver 1 1 1 1 1 = 1",
            "plan = 1", "planned 0 = 0", "planned 10 = 0", "deliver 1 1 1 2 2 = 2", "plan = 2", "planned 0 = 10000", "planned 10 = -1", "planned 11 = 0",
            "planned 12 = 0", "planned 20 = -1", "planned 21 = 1", "planned 22 = 2");
    }

    private static void thenTheLeastSum() {
        Check.run("PLAN: then the least sum of flights", "crew 0 0 0 = 1", "crew 1 1 0 = 1", "flight 0 2 7 = -1", "flight 1 2 6 = -1",
            "deliver 2 2 1 0 9 = 0", "plan = 1", "planned 0 = 6", "planned 10 = 1", "flight 0 2 5 = 7", "plan = 1", "planned 0 = 5", "planned 10 = 0",
            "flight 0 2 6 = 5", "plan = 1", "planned 10 = 0");
        Check.run("PLAN: the sum of all CREWS' flights", "crew 0 0 0 = 1", "crew 1 1 0 = 1", "flight 0 1 100 = -1", "flight 0 2 10 = -1",
            "flight 1 2 20 = -1", "flight 0 3 1 = -1", "flight 1 3 5 = -1", "deliver 2 9 9 0 2 = 0", "deliver 3 9 9 0 2 = 1", "plan = 2",
            "planned 0 = 15", "planned 10 = 0", "planned 11 = 1");
    }

    private static void thenTheLeastRow() {
        Check.run("PLAN: then the least row of CREWS", "crew 0 0 0 = 1", "crew 1 0 0 = 1", "crew 2 0 0 = 1", "crew 3 0 0 = 1", "deliver 0 0 5 0 0 = 0",
            "deliver 0 0 5 5 5 = 1", "deliver 0 0 5 2 2 = 2", "plan = 3", "planned 10 = 0", "planned 11 = 0", "planned 12 = 1");
        Check.run("PLAN: the first DELIVERY counts ahead of later ones", "crew 1 0 0 = 1", "crew 2 0 0 = 1", "deliver 0 0 5 0 3 = 0", "deliver 0 0 5 0 3 = 1",
            "plan = 2", "planned 10 = 1", "planned 11 = 2");
    }

    private static void noneIsFour() {
        Check.run("PLAN: none: 4", "crew 3 0 0 = 1", "deliver 0 0 5 0 0 = 0", "deliver 0 0 5 0 0 = 1", "plan = 1", "planned 10 = 3", "planned 11 = -1");
        Check.run("PLAN: none behind every CREW", "crew 0 0 0 = 1", "crew 3 0 0 = 1", "deliver 0 0 5 0 0 = 0", "deliver 0 0 5 0 0 = 1",
            "deliver 0 0 5 0 0 = 2", "plan = 2", "planned 10 = 0", "planned 11 = 3", "planned 12 = -1");
    }

    private static void leastRowOfDeliveries() {
        Check.run("Promise 23: of orders as cheap that which is the least row of DELIVERIES", "crew 0 0 0 = 1", "deliver 0 0 5 10 100 = 0",
            "deliver 0 0 5 0 100 = 1", "deliver 0 0 5 0 100 = 2", "plan = 3", "planned 20 = 10", "planned 21 = 15", "planned 22 = 20");
        Check.run("Promise 23: a cheaper order goes ahead of a lesser row", "crew 0 0 0 = 1", "flight 0 1 10 = -1", "deliver 1 1 5 0 100 = 0",
            "deliver 0 1 5 0 100 = 1", "plan = 2", "planned 0 = 0", "planned 21 = 0", "planned 20 = 5");
        Check.run("Promise 23: the lesser row that can be", "crew 0 0 0 = 1", "deliver 0 0 5 3 100 = 0", "deliver 0 0 5 0 7 = 1", "deliver 0 0 5 0 100 = 2",
            "plan = 3", "planned 21 = 0", "planned 20 = 5", "planned 22 = 10");
    }

    private static void sevenByOne() {
        Desk x = Check.run("PLAN: seven DELIVERIES of one CREW", "crew 2 0 0 = 1", "flight 0 1 9 = -1");
        for (int d = 0; d < 7; d++) {
            Check.run(x, "deliver 0 1 1 " + 3 * (6 - d) + " " + 3 * (6 - d) + " = " + d);
        }
        Check.run(x, "plan = 7", "planned 0 = 54");
        for (int d = 0; d < 7; d++) {
            Check.run(x, "planned " + (10 + d) + " = 2", "planned " + (20 + d) + " = " + 3 * (6 - d));
        }
    }

    private static void sevenByFour() {
        Desk x = Check.run("PLAN: seven DELIVERIES of four CREWS", "crew 0 0 0 = 1", "crew 1 0 0 = 1", "crew 2 0 0 = 1", "crew 3 0 0 = 1",
            "7* deliver 0 0 5 0 5", "plan = 7", "planned 0 = 0");
        int[] crews = {0, 0, 1, 1, 2, 2, 3};
        int[] days = {0, 5, 0, 5, 0, 5, 0};
        for (int d = 0; d < 7; d++) {
            Check.run(x, "planned " + (10 + d) + " = " + crews[d], "planned " + (20 + d) + " = " + days[d]);
        }
    }

    private static void noneMadeSince() {
        Check.run("Promise 23: -9 when none was made", "planned 0 = -9", "deliver 0 0 1 0 0 = 0", "planned 0 = -9", "planned 10 = -9", "planned 20 = -9");
        Check.run("Promise 23: since a DELIVERY was told", "plan = 0", "planned 0 = 0", "deliver 0 0 1 0 0 = 0", "planned 0 = -9", "planned 10 = -9",
            "plan = 0", "planned 0 = 0", "planned 10 = -1");
        Check.run("Promise 23: since a CREW was told", "deliver 0 0 1 0 0 = 0", "plan = 0", "crew 0 0 0 = 1", "planned 0 = -9", "planned 20 = -9",
            "plan = 1", "planned 20 = 0", "crew 0 0 0 = 1", "planned 20 = -9", "plan = 1", "planned 20 = 0");
        Check.run("Promise 23: since a FLIGHT was told", "plan = 0", "flight 0 1 5 = -1", "planned 0 = -9", "plan = 0", "planned 0 = 0",
            "flight 0 1 -1 = 5", "planned 0 = -9", "plan = 0", "planned 0 = 0");
    }

    private static void refusedTellsNothing() {
        Check.run("Promise 23: what is refused is not told", "crew 0 0 0 = 1", "7* deliver 0 0 1 0 0", "plan = 1", "deliver 0 0 1 0 0 = -3",
            "planned 0 = 0", "deliver 0 0 0 0 0 = -2", "planned 10 = 0", "crew 4 0 0 = -2", "crew 0 0 1000 = -2", "planned 20 = 0", "flight 0 0 5 = -2",
            "flight 0 1 10001 = -2", "flight 0 10 5 = -2", "planned 0 = 0", "planned 16 = -1");
        Check.run("Promise 23: what else is told leaves the plan", "crew 0 0 0 = 1", "deliver 0 0 1 0 0 = 0", "plan = 1", "port 0 505 = 0", "wind 0 0 1 1 = 0",
            "begin 0 0 0 1 = 1", "place 0 0 = 1", "sail 0 1 = 1", "skipper 0 = 0", "planned 10 = 0", "plan = 1", "planned 10 = 0", "planned 20 = 0");
    }

    private static void plannedWhats() {
        Desk x = Check.run("Promise 23: -9 when there is none such", "crew 0 0 0 = 1", "deliver 0 0 1 0 0 = 0", "deliver 0 0 1 0 0 = 1", "plan = 1");
        for (int what : new int[] {Integer.MIN_VALUE, -10, -1, 1, 2, 9, 12, 13, 16, 17, 19, 22, 26, 27, 30, 100, Integer.MAX_VALUE}) {
            Check.run(x, "planned " + what + " = -9");
        }
        Check.run(x, "planned 0 = 0", "planned 10 = 0", "planned 11 = -1", "planned 20 = 0", "planned 21 = -1");
    }

    private static void nothingToPlan() {
        Check.run("Promise 22: with no DELIVERY", "plan = 0", "planned 0 = 0", "planned 10 = -9", "planned 20 = -9", "crew 0 0 0 = 1", "plan = 0",
            "planned 0 = 0", "planned 10 = -9");
        Check.run("Promise 22: with no CREW", "deliver 0 0 1 0 999 = 0", "plan = 0", "planned 0 = 0", "planned 10 = -1", "planned 20 = -1");
        Check.run("Promise 22: made again it is the same", "deliver 0 0 1 0 999 = 0", "crew 0 0 0 = 1", "3* plan = 1", "planned 20 = 0");
    }

    private static void longDays() {
        Check.run("Terms IV: the longest row of days", "crew 0 0 0 = 1", "deliver 0 0 200 0 0 = 0", "deliver 0 0 200 0 200 = 1", "deliver 0 0 200 0 400 = 2",
            "deliver 0 0 200 0 600 = 3", "deliver 0 0 199 0 800 = 4", "deliver 0 0 200 0 999 = 5", "deliver 0 0 1 0 999 = 6", "plan = 6",
            "planned 15 = 0", "planned 25 = 999", "planned 16 = -1");
        Check.run("Terms IV: the dearest row of flights", "crew 0 0 0 = 1", "flight 0 1 10000 = -1", "7* deliver 1 0 1 0 999", "plan = 7",
            "planned 0 = 70000", "planned 20 = 1", "planned 26 = 13");
    }
}
