/** Each sentence on a bound of bargains (Terms III, promise 18). */
public final class PayEdgeTest {
    public static void main(String[] args) {
        bounds();
        noneWasBegun();
        eachBegunDay();
        allIfItArrived();
        turnedIsNothing();
        elseNothing();
        lessForEachNotCovered();
        addedForEachDry();
        mayBeBelowZero();
        theMostAndTheLeast();
        ofTheLatest();
        paysNothingAway();
        Check.finish();
    }

    private static Desk allBegun() {
        Desk x = new Desk();
        for (int b = 0; b < 6; b++) {
            x.begin(b, 0, 0, 1);
        }
        return x;
    }

    private static void bounds() {
        Check.sentence("Promise 18: kind 0, 1, a sum 0 .. 100000, less (0 .. 1000), more (0 .. 1000); RANGE is -2000000000");
        Check.bounds(PayEdgeTest::allBegun, "pay", -2000000000, new int[] {0, 0, 0, 0, 0}, 0, 5, 0, 1, 0, 100000, 0, 1000, 0, 1000);
        Check.bounds(PayEdgeTest::allBegun, "pay", -2000000000, new int[] {5, 1, 100000, 1000, 1000}, 0, 5, 0, 1, 0, 100000, 0, 1000, 0, 1000);
    }

    private static void noneWasBegun() {
        Check.run("Promise 18: STATE: none was begun, -2000000001", "pay 0 0 1 1 1 = -2000000001", "pay 5 1 0 0 0 = -2000000001",
            "pay 0 2 1 1 1 = -2000000000", "pay 6 0 1 1 1 = -2000000000", "begin 1 0 0 1 = 1", "pay 0 0 1 1 1 = -2000000001",
            "pay 1 0 100000 1000 1000 = 0", "pay 1 1 100000 1000 1000 = 0");
    }

    private static void eachBegunDay() {
        Desk x = Check.run("Terms III: pence for each begun day of four WATCHES", "water 0 1000", "begin 0 0 0 1 = 1", "place 0 900 = 1", "pay 0 0 7 0 0 = 0");
        for (int watches = 1; watches <= 13; watches++) {
            Check.run(x, "sail 0 1 = 1", "pay 0 0 7 0 0 = " + 7 * ((watches + 3) / 4), "pay 0 0 0 0 0 = 0");
        }
        Check.run("Terms III: by the day, though it is GIVEN UP", "tape when day above 0 do end;", "skipper 0 = 1", "water 0 1000", "begin 0 0 0 1 = 1",
            "place 0 900 = 1", "sail 0 9 = 4", "passage 0 0 = 2", "pay 0 0 50 0 0 = 50");
        Check.run("Terms III: by the day, though it turned", "steady 0 10", "tape when day above 0 do turn;", "skipper 0 = 1", "water 0 1000",
            "begin 0 0 0 1 = 1", "place 0 900 = 1", "sail 0 9 = 8", "passage 0 0 = 1", "pay 0 0 50 0 0 = 100");
        Check.run("Terms III: days of waiting, too", "tape when force below 1 do wait;", "skipper 0 = 1", "water 0 1000", "begin 0 0 0 1 = 1",
            "place 0 900 = 1", "sail 0 5 = 5", "pay 0 0 50 0 0 = 100");
    }

    private static void allIfItArrived() {
        Check.run("Terms III: as a whole (all if it ARRIVED)", "steady 0 10", "water 0 1000", "begin 0 0 0 1 = 1", "place 0 900 = 1", "sail 0 8 = 8",
            "pay 0 1 100000 0 0 = 0", "sail 0 1 = 1", "passage 0 0 = 1", "pay 0 1 100000 0 0 = 100000", "pay 0 1 0 0 0 = 0");
    }

    private static void turnedIsNothing() {
        Check.run("Terms III: as a whole, not turned", "steady 0 10", "tape when day above 0 do turn;", "skipper 0 = 1", "water 0 1000",
            "begin 0 0 0 1 = 1", "place 0 900 = 1", "sail 0 9 = 8", "passage 0 0 = 1", "passage 0 4 = 1", "pay 0 1 100000 0 0 = 0");
    }

    private static void elseNothing() {
        Check.run("Terms III: as a whole, else nothing: GIVEN UP", "tape when day above 0 do end;", "skipper 0 = 1", "water 0 1000", "begin 0 0 0 1 = 1",
            "place 0 900 = 1", "sail 0 9 = 4", "passage 0 0 = 2", "pay 0 1 100000 0 0 = 0");
        Check.run("Terms III: as a whole, else nothing: it goes on", "water 0 1000", "begin 0 0 0 1 = 1", "place 0 900 = 1", "sail 0 9 = 9",
            "pay 0 1 100000 0 0 = 0");
    }

    private static void lessForEachNotCovered() {
        Check.run("Terms III: less a told sum for each WATCH that isn't COVERED", "steady 0 10", "tape box 2 0 4 0 from 0 to 359;", "insurer 0 = 1",
            "water 0 1000", "begin 0 0 0 1 = 1", "place 0 900 = 1", "sail 0 9 = 9", "passage 0 7 = 3", "pay 0 0 1000 11 500 = 2967",
            "pay 0 1 1000 11 500 = 967", "pay 0 1 1000 0 500 = 1000", "pay 0 1 1000 1000 500 = -2000");
    }

    private static void addedForEachDry() {
        Check.run("Terms III: for each DRY one added", "steady 0 10", "water 0 5 = 0", "begin 0 0 0 1 = 1", "place 0 900 = 1", "sail 0 9 = 9",
            "passage 0 8 = 4", "pay 0 0 1000 500 11 = 3044", "pay 0 1 1000 500 11 = 1044", "pay 0 1 1000 500 0 = 1000", "pay 0 1 0 500 1000 = 4000");
    }

    private static void mayBeBelowZero() {
        Check.run("Promise 18: it may be below 0", "tape crew 9;", "insurer 0 = 1", "begin 0 0 0 1 = 1", "place 0 900 = 1", "sail 0 2 = 2",
            "pay 0 0 1 2 1 = -1", "pay 0 0 0 1 0 = -2", "pay 0 1 100000 2 1 = -2", "pay 0 0 2 2 1 = 0");
    }

    private static void theMostAndTheLeast() {
        Check.run("Promise 18: the most that can be", "begin 0 0 0 1 = 1", "place 0 900 = 1", "5* sail 0 400 = 400",
            "pay 0 0 100000 0 1000 = 52000000", "pay 0 1 100000 0 1000 = 2000000");
        Check.run("Promise 18: the least that can be", "tape crew 9;", "insurer 0 = 1", "begin 0 0 0 1 = 1", "place 0 900 = 1", "5* sail 0 400 = 400",
            "pay 0 0 0 1000 0 = -2000000", "pay 0 1 100000 1000 0 = -2000000", "pay 0 0 0 1000 1000 = 0");
    }

    private static void ofTheLatest() {
        Check.run("Promise 18: a BOAT's latest PASSAGE (ended or not)", "steady 0 10", "begin 0 0 0 1 = 1", "place 0 100 = 1", "sail 0 9 = 1",
            "pay 0 1 100 0 1 = 101", "begin 0 0 0 1 = 1", "pay 0 1 100 0 1 = 0", "pay 0 0 100 0 1 = 0", "place 0 900 = 1", "sail 0 1 = 1",
            "pay 0 0 100 0 1 = 101");
    }

    private static void paysNothingAway() {
        Check.run("Promise 18: what it is paid is told again and again", "begin 0 0 0 1 = 1", "place 0 900 = 1", "sail 0 2 = 2",
            "3* pay 0 0 10 1 1 = 12", "passage 0 8 = 2", "passage 0 0 = 0", "sail 0 1 = 1", "pay 0 0 10 1 1 = 13");
    }
}
