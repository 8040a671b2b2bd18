import java.util.function.Supplier;

/** Each sentence on a bound of the sea, the winds, ports, speeds, water and parts (Terms I, promises 1 and 4 to 8). */
public final class SeaEdgeTest {
    private static final Supplier<Desk> NEW = Desk::new;

    public static void main(String[] args) {
        noWindAtFirst();
        noSpeedAtFirst();
        nobodyIsTold();
        columnsAndRows();
        windBounds();
        portBounds();
        speedBounds();
        waterBounds();
        lastsBounds();
        windIsOfItsZoneAndMonthAlone();
        zonesByColumn();
        zonesByRow();
        monthsOfThirtyDays();
        yearsOf360Days();
        fourWatchesADay();
        directions();
        anglesGoRound();
        bandsAreHalves();
        aPersonDrinksOne();
        partsBreakBehindTheirWatches();
        partsAreMended();
        partsLoseOnlyUnderWay();
        refusedCallsChangeNothing();
        Check.finish();
    }

    private static void noWindAtFirst() {
        Check.sentence("Promise 1: No wind");
        Desk x = new Desk();
        for (int zone = 0; zone < 24; zone++) {
            for (int month = 0; month < 12; month++) {
                Check.due("wind(" + zone + ", " + month + ", 7, 9)", x.wind(zone, month, 7, 9), 0);
            }
        }
    }

    private static void noSpeedAtFirst() {
        Check.sentence("Promise 1: no boat goes");
        Desk x = new Desk();
        for (int b = 0; b < 6; b++) {
            Check.run(x, "sail " + b + " 1 = -4", "place " + b + " 0 = -4", "passage " + b + " 0 = -9", "passage " + b + " 2 = -9");
            for (int k = 0; k < 25; k++) {
                Check.due("speed of boat " + b, x.speed(b, k / 5, k % 5, 40), 0);
            }
        }
    }

    private static void nobodyIsTold() {
        Desk x = Check.run("Promise 1: nobody is told", "count 0 = 0", "count 1 = 0", "count 2 = 0", "count 3 = 0", "fault 0 = 0",
            "fault 1 = -1", "planned 0 = -9", "planned 10 = -9", "plan = 0", "planned 0 = 0", "planned 10 = -9", "planned 20 = -9");
        for (int b = 0; b < 6; b++) {
            Check.run(x, "count " + (10 + b) + " = 0", "count " + (20 + b) + " = 0", "boat " + b + " 0 = 0", "boat " + b + " 1 = 0",
                "boat " + b + " 10 = 10000", "boat " + b + " 11 = 10000", "boat " + b + " 12 = 10000", "boat " + b + " 13 = 10000",
                "covers " + b + " 0 0 0 9 = 1", "pay " + b + " 0 1 1 1 = -2000000001");
        }
        for (int p = 0; p < 10; p++) {
            Check.run(x, "count " + (30 + p) + " = 0");
            for (int q = 0; q < p; q++) {
                Check.run(x, "flight " + p + " " + q + " 5 = -1");
            }
        }
    }

    private static void columnsAndRows() {
        Check.sentence("Terms I: COLUMNS 0 .. 29 and ROWS 0 .. 19");
        Check.places(NEW, "port", -2, new int[] {0, 0}, 1);
        Desk x = new Desk();
        for (int place = -1; place <= 3100 && x.callsLeft() > 0; place += place % 100 == 20 ? 79 : 1) {
            boolean one = place >= 0 && place / 100 < 30 && place % 100 < 20;
            x = x.callsLeft() < 2 ? new Desk() : x;
            Check.due("port(3, " + place + ") is refused", x.port(3, place) == -2 ? 1 : 0, one ? 0 : 1);
        }
    }

    private static void windBounds() {
        Check.sentence("Terms I: ZONES 0 .. 23, MONTHS 0 .. 11, directions 0 .. 7, forces 0 .. 9");
        Check.bounds(NEW, "wind", -2, new int[] {0, 0, 0, 0}, 0, 23, 0, 11, 0, 7, 0, 9);
        Check.run("Promise 4: 10 times the direction and the force that it had", "wind 23 11 7 9 = 0", "wind 23 11 0 9 = 79",
            "wind 23 11 7 0 = 9", "wind 23 11 1 1 = 70", "wind 23 11 0 0 = 11", "wind 23 11 0 0 = 0");
    }

    private static void portBounds() {
        Check.sentence("Terms I: PORTS 0 .. 9, each at a place (0 at first)");
        Check.bounds(NEW, "port", -2, new int[] {0, 0}, 0, 9, 0, 19);
        Check.run("Promise 5: at which it was", "port 9 2919 = 0", "port 9 0 = 2919", "port 9 19 = 0", "count 39 = 19", "count 38 = 0",
            "port 0 2900 = 0", "count 30 = 2900", "count 31 = 0");
    }

    private static void speedBounds() {
        Check.sentence("Terms I: BOATS 0 .. 5, angles 0 .. 4, BANDS 0 .. 4, speeds 0 .. 40");
        Check.bounds(NEW, "speed", -2, new int[] {0, 0, 0, 0}, 0, 5, 0, 4, 0, 4, 0, 40);
        Check.run("Promise 6: what it was", "speed 5 4 4 40 = 0", "speed 5 4 4 0 = 40", "speed 5 4 4 1 = 0", "speed 5 4 3 2 = 0",
            "speed 5 3 4 3 = 0", "speed 4 4 4 4 = 0", "speed 5 4 4 0 = 1");
    }

    private static void waterBounds() {
        Check.sentence("Terms I: WATER in litres (0 .. 10000)");
        Check.bounds(NEW, "water", -2, new int[] {0, 0}, 0, 5, 0, 10000);
        Check.run("Promise 7: what it was", "water 5 10000 = 0", "water 5 0 = 10000", "water 5 1 = 0", "boat 5 0 = 1", "boat 4 0 = 0");
    }

    private static void lastsBounds() {
        Check.sentence("Terms I: PARTS 0 .. 3, each with 0 .. 10000 WATCHES, 10000 at first");
        Check.bounds(NEW, "lasts", -2, new int[] {0, 0, 0}, 0, 5, 0, 3, 0, 10000);
        Check.run("Promise 8: how many it did", "lasts 5 3 0 = 10000", "lasts 5 3 10000 = 0", "lasts 5 3 7 = 10000", "boat 5 13 = 7",
            "boat 5 12 = 10000", "boat 4 13 = 10000");
    }

    private static void windIsOfItsZoneAndMonthAlone() {
        Check.sentence("Terms I: WIND of a ZONE and MONTH");
        Desk x = new Desk();
        for (int k = 0; k < 48; k++) {
            x.wind(k / 2, k % 2 * 11, k % 8, k % 10);
        }
        for (int k = 0; k < 48; k++) {
            Check.due("wind of " + k / 2, x.wind(k / 2, k % 2 * 11, 0, 0), k % 8 * 10 + k % 10);
        }
    }

    /** 1 if the wind of a zone in a month is the one of a place on a day: seen by an insurer who bears no wind. */
    private static int isOf(int zone, int month, int place, int day) {
        Desk x = Check.run(new Desk(), "tape force 0;", "insurer 0 = 1", "port 0 " + place + " = 0", "wind " + zone + " " + month + " 0 1 = 0",
            "begin 0 0 " + day + " 1 = 1", "place 0 " + place + " = 1", "sail 0 1 = 1");
        return x.passage(0, 7);
    }

    private static void zonesByColumn() {
        Check.sentence("Terms I: ZONES: ROW / 5 times 6 and COLUMN / 5 (whole parts), by COLUMN");
        for (int zone = 0; zone < 6; zone++) {
            for (int column = 0; column < 30; column++) {
                Check.due("zone " + zone + " has column " + column, isOf(zone, 0, 100 * column, 0), column / 5 == zone ? 1 : 0);
            }
        }
    }

    private static void zonesByRow() {
        Check.sentence("Terms I: ZONES: ROW / 5 times 6 and COLUMN / 5 (whole parts), by ROW");
        for (int zone = 5; zone < 24; zone += 6) {
            for (int row = 0; row < 20; row++) {
                Check.due("zone " + zone + " has row " + row, isOf(zone, 0, 2900 + row, 0), 6 * (row / 5) + 5 == zone ? 1 : 0);
            }
        }
    }

    private static void monthsOfThirtyDays() {
        Check.sentence("Terms I: MONTH (0 .. 11) a thirtieth of the date (the whole part)");
        for (int month = 0; month < 12; month++) {
            Check.due("the day ahead of month " + month, isOf(month, month, 500 * (month % 6) + month / 6 * 5, (30 * month + 359) % 360), 0);
            Check.due("first day of month " + month, isOf(month, month, 500 * (month % 6) + month / 6 * 5, 30 * month), 1);
            Check.due("last day of month " + month, isOf(month, month, 500 * (month % 6) + month / 6 * 5, 30 * month + 29), 1);
            Check.due("the day behind month " + month, isOf(month, month, 500 * (month % 6) + month / 6 * 5, (30 * month + 30) % 360), 0);
        }
    }

    private static void yearsOf360Days() {
        Check.sentence("Terms I: the date of a day is its rest by 360");
        Check.due("day 359 is in month 11", isOf(0, 11, 0, 359), 1);
        Check.due("day 360 is not", isOf(0, 11, 0, 360), 0);
        Check.due("day 360 is in month 0", isOf(0, 0, 0, 360), 1);
        Check.due("day 389 is in month 0", isOf(0, 0, 0, 389), 1);
        Check.due("day 390 is in month 1", isOf(0, 1, 0, 390), 1);
        Check.due("day 499 is in month 4", isOf(0, 4, 0, 499), 1);
        Check.run("Terms I: the date of a day is its rest by 360, a third year", "tape box 0 0 0 0 from 359 to 359; box 1 0 1 0 from 0 to 0;",
            "insurer 0 = 2", "covers 0 0 718 0 0 = 1", "covers 0 0 719 0 0 = 0", "covers 0 0 720 0 0 = 1", "covers 0 100 719 0 0 = 1",
            "covers 0 100 720 0 0 = 0", "covers 0 100 721 0 0 = 1", "covers 0 0 359 0 0 = 0", "covers 0 100 360 0 0 = 0",
            "covers 0 0 999 0 0 = 1");
        Check.run("Terms I: the rest by 360 under way, to the last day that can be come to", "tape box 0 0 0 0 from 278 to 278;", "insurer 0 = 1", "begin 0 0 499 1 = 1",
            "place 0 2900 = 1", "4* sail 0 400 = 400", "sail 0 396 = 396", "passage 0 7 = 4", "sail 0 4 = 4", "passage 0 7 = 8",
            "count 0 = 2000");
    }

    private static void fourWatchesADay() {
        Check.run("Terms I: four WATCHES a day", "wind 0 0 0 0 = 0", "wind 0 1 0 1 = 0", "tape force 0;", "insurer 0 = 1",
            "begin 0 0 29 1 = 1", "place 0 100 = 1", "sail 0 4 = 4", "passage 0 7 = 0", "sail 0 1 = 1", "passage 0 7 = 1",
            "passage 0 10 = 4");
    }

    private static void directions() {
        int[] toward = {1109, 1209, 1210, 1211, 1111, 1011, 1010, 1009};
        for (int direction = 0; direction < 8; direction++) {
            Check.run("Terms I: direction " + direction + " to which it blows", "port 0 1110 = 0", "speed 0 0 0 10 = 0",
                "wind 14 0 " + direction + " 0 = 0", "begin 0 0 0 1 = 1", "place 0 " + toward[direction] + " = 1", "sail 0 5 = 1",
                "passage 0 0 = 1", "passage 0 2 = " + toward[direction]);
        }
    }

    private static void anglesGoRound() {
        Check.sentence("Terms I: angle, how many eighths of a turn, 0 .. 4, its course is away from the wind's direction");
        int[] toward = {1109, 1209, 1210, 1211, 1111, 1011, 1010, 1009};
        int[] apart = {0, 1, 2, 3, 4, 3, 2, 1};
        for (int course = 0; course < 8; course++) {
            for (int more = 0; more < 8; more++) {
                Desk x = Check.run(new Desk(), "port 0 1110 = 0", "wind 14 0 " + (course + more) % 8 + " 0", "begin 0 0 0 1",
                    "place 0 " + toward[course], "speed 0 0 0 1", "speed 0 1 0 2", "speed 0 2 0 3", "speed 0 3 0 4", "speed 0 4 0 5", "sail 0 1");
                Check.due("course " + course + ", wind " + (course + more) % 8, x.passage(0, 3), apart[more] + 1);
            }
        }
    }

    private static void bandsAreHalves() {
        int[] bands = {0, 0, 1, 1, 2, 2, 3, 3, 4, 4};
        for (int force = 0; force <= 9; force++) {
            Check.run("Terms I: BAND of force " + force + " (a half of it, the whole part)", "wind 0 0 2 " + force + " = 0",
                "speed 0 0 0 1", "speed 0 0 1 2", "speed 0 0 2 3", "speed 0 0 3 4", "speed 0 0 4 5", "begin 0 0 0 1 = 1",
                "place 0 2900 = 1", "sail 0 1 = 1", "passage 0 3 = " + (bands[force] + 1));
        }
    }

    private static void aPersonDrinksOne() {
        for (int people = 1; people <= 9; people++) {
            Check.run("Terms I: a person drinks 1 a WATCH", "water 0 10000 = 0", "begin 0 0 0 " + people + " = 1", "place 0 100 = 1",
                "sail 0 7 = 7", "boat 0 0 = " + (10000 - 7 * people), "passage 0 8 = 0");
        }
    }

    private static void partsBreakBehindTheirWatches() {
        Check.run("Terms I: it breaks at the WATCH behind these", "lasts 0 2 2 = 10000", "begin 0 0 0 1 = 1", "place 0 100 = 1",
            "sail 0 1 = 1", "boat 0 12 = 1", "sail 0 1 = 1", "boat 0 12 = 0", "boat 0 1 = 0", "sail 0 1 = 1", "boat 0 12 = -1",
            "boat 0 1 = 1", "sail 0 1 = 1", "boat 0 12 = -1", "boat 0 1 = 1", "boat 0 11 = 9996");
        Check.run("Terms I: it breaks at the next WATCH with 0", "lasts 0 0 0 = 10000", "begin 0 0 0 1 = 1", "place 0 100 = 1",
            "boat 0 10 = 0", "boat 0 1 = 0", "sail 0 1 = 1", "boat 0 10 = -1", "boat 0 1 = 1");
    }

    private static void partsAreMended() {
        Check.run("Terms I: and is mended by a new number", "lasts 0 0 0", "lasts 0 1 0", "lasts 0 2 0", "lasts 0 3 0",
            "begin 0 0 0 1 = 1", "place 0 100 = 1", "sail 0 1 = 1", "boat 0 1 = 4", "lasts 0 0 0 = 0", "boat 0 1 = 3", "boat 0 10 = 0",
            "lasts 0 1 1 = 0", "lasts 0 2 10000 = 0", "boat 0 1 = 1", "boat 0 13 = -1", "sail 0 1 = 1", "boat 0 1 = 2",
            "boat 0 11 = 0", "boat 0 12 = 9999");
        Check.run("Promise 8: 0: it was broken, or would be at the next", "lasts 0 0 0 = 10000", "lasts 0 0 0 = 0", "lasts 0 1 1 = 10000",
            "begin 0 0 0 1 = 1", "place 0 100 = 1", "sail 0 1 = 1", "lasts 0 1 5 = 0", "lasts 0 0 5 = 0", "boat 0 1 = 0");
    }

    private static void partsLoseOnlyUnderWay() {
        Check.run("Terms I: each under way takes one off", "lasts 1 0 1 = 10000", "begin 0 0 0 1 = 1", "place 0 100 = 1", "sail 0 9 = 9",
            "boat 1 10 = 1", "boat 1 1 = 0", "boat 0 10 = 9991");
    }

    private static void refusedCallsChangeNothing() {
        Check.run("Promises 4 to 8: RANGE changes nothing", "wind 3 4 5 6 = 0", "wind 3 4 8 1 = -2", "wind 3 4 1 10 = -2",
            "wind 3 4 0 0 = 56", "port 2 519 = 0", "port 2 520 = -2", "port 2 -1 = -2", "count 32 = 519", "speed 1 2 3 40 = 0",
            "speed 1 2 3 41 = -2", "speed 1 2 3 -1 = -2", "speed 1 2 3 0 = 40", "water 1 10000 = 0", "water 1 10001 = -2",
            "water 1 -1 = -2", "boat 1 0 = 10000", "lasts 1 1 5 = 10000", "lasts 1 1 10001 = -2", "lasts 1 1 -1 = -2", "boat 1 11 = 5");
    }
}
