/** Promises 1 to 8 and 24: a new object, the tape, winds, ports, speeds, water, parts, counts. */
public final class ToldTest {
    private static final int BIG = Integer.MAX_VALUE;
    private static final int SMALL = Integer.MIN_VALUE;

    public static void main(String[] args) {
        newObject();
        tape();
        bytes();
        wind();
        port();
        speed();
        water();
        lasts();
        counts();
        Check.finish();
    }

    private static void newObject() {
        Desk x = new Desk();
        for (int b = 0; b < 6; b++) {
            Check.due("new passage", x.passage(b, 0), -9);
            Check.due("new water", x.boat(b, 0), 0);
            Check.due("new broken", x.boat(b, 1), 0);
            Check.due("new part", x.boat(b, 13), 10000);
            Check.due("new rules", x.count(10 + b), 0);
            Check.due("new boxes", x.count(20 + b), 0);
            Check.due("new cover", x.covers(b, 1010, 0, 0, 9), 1);
        }
        for (int p = 0; p < 10; p++) {
            Check.due("new port", x.count(30 + p), 0);
        }
        Check.due("new fault", x.fault(0), 0);
        Check.due("new fault's place", x.fault(1), -1);
        Check.due("no plan yet", x.planned(0), -9);
        Check.due("new plan", x.plan(), 0);
        for (int what = 0; what < 4; what++) {
            Check.due("new count " + what, x.count(what), 0);
        }
    }

    private static void tape() {
        Desk x = new Desk();
        for (int k = 1; k <= 40; k++) {
            Check.due("feed " + k, x.feed(0, 0, 0, 0, 0), 20 * k);
        }
        Check.due("feed 41", x.feed(0, 0, 0, 0, 0), -3);
        Check.due("still full", x.count(3), 800);
        Check.due("end 801", x.end(801), -1);
        Check.due("end -1", x.end(-1), -1);
        Check.due("end smallest", x.end(SMALL), -1);
        Check.due("end biggest", x.end(BIG), -1);
        Check.due("end 800", x.end(800), 800);
        Check.due("end 781", x.end(781), 781);
        Check.due("feed onto 781", x.feed(0, 0, 0, 0, 0), -3);
        Check.due("781 stay", x.count(3), 781);
        Check.due("end 780", x.end(780), 780);
        Check.due("feed onto 780", x.feed(0, 0, 0, 0, 0), 800);
        Check.due("end 0", x.end(0), 0);
        Check.due("end 1 of none", x.end(1), -1);
    }

    /** The highest byte first, and the ints in their order. */
    private static void bytes() {
        Desk x = new Desk();
        x.feed(0x63726577, 0x20202020, 0x20203720, 0x3b666f72, 0x63652033);
        x.feed(0x3b202020, 0, 0, 0, 0);
        x.end(21);
        Check.due("'crew 7 ;force 3;'", x.insurer(0), 2);
        Check.due("crew 7, force 3", x.covers(0, 0, 0, 7, 3), 1);
        Check.due("crew 6", x.covers(0, 0, 0, 6, 3), 0);
        Check.due("force 4", x.covers(0, 0, 0, 7, 4), 0);
    }

    private static void wind() {
        Desk x = new Desk();
        for (int zone = 0; zone < 24; zone++) {
            for (int month = 0; month < 12; month++) {
                Check.due("first wind", x.wind(zone, month, (zone + month) % 8, (zone * month) % 10), 0);
            }
        }
        Desk y = new Desk();
        Check.due("wind", y.wind(23, 11, 7, 9), 0);
        Check.due("wind again", y.wind(23, 11, 0, 3), 79);
        Check.due("wind at last", y.wind(23, 11, 5, 0), 3);
        Check.due("other month", y.wind(23, 10, 1, 1), 0);
        int[][] bad = {{-1, 0, 0, 0}, {24, 0, 0, 0}, {0, -1, 0, 0}, {0, 12, 0, 0}, {0, 0, -1, 0}, {0, 0, 8, 0},
            {0, 0, 0, -1}, {0, 0, 0, 10}, {BIG, BIG, BIG, BIG}, {SMALL, SMALL, SMALL, SMALL}};
        for (int[] w : bad) {
            Check.due("bad wind", y.wind(w[0], w[1], w[2], w[3]), -2);
        }
        Check.due("stays after RANGE", y.wind(23, 11, 0, 0), 50);
    }

    private static void port() {
        Desk x = new Desk();
        Check.due("port", x.port(9, 2919), 0);
        Check.due("port again", x.port(9, 19), 2919);
        Check.due("port 10", x.port(10, 0), -2);
        Check.due("port -1", x.port(-1, 0), -2);
        for (int place : new int[] {-1, -100, 20, 99, 120, 2920, 3000, BIG, SMALL}) {
            Check.due("place " + place, x.port(0, place), -2);
        }
        Check.due("its place", x.count(39), 19);
        Check.due("others stay", x.count(30), 0);
    }

    private static void speed() {
        Desk x = new Desk();
        for (int k = 0; k < 25; k++) {
            Check.due("speed", x.speed(5, k / 5, k % 5, k + 1), 0);
        }
        for (int k = 0; k < 25; k++) {
            Check.due("speed again", x.speed(5, k / 5, k % 5, 40), k + 1);
        }
        Check.due("another boat", x.speed(4, 0, 0, 0), 0);
        int[][] bad = {{-1, 0, 0, 0}, {6, 0, 0, 0}, {0, -1, 0, 0}, {0, 5, 0, 0}, {0, 0, -1, 0}, {0, 0, 5, 0},
            {0, 0, 0, -1}, {0, 0, 0, 41}, {BIG, 0, 0, 0}, {0, SMALL, 0, 0}};
        for (int[] s : bad) {
            Check.due("bad speed", x.speed(s[0], s[1], s[2], s[3]), -2);
        }
        Check.due("stays after RANGE", x.speed(0, 0, 0, 1), 0);
    }

    private static void water() {
        Desk x = new Desk();
        Check.due("water", x.water(0, 10000), 0);
        Check.due("water again", x.water(0, 7), 10000);
        Check.due("too much", x.water(0, 10001), -2);
        Check.due("too little", x.water(0, -1), -2);
        Check.due("boat 6", x.water(6, 1), -2);
        Check.due("boat -1", x.water(-1, 1), -2);
        Check.due("boat's water", x.boat(0, 0), 7);
        Check.due("none", x.water(0, 0), 7);
        Check.due("boat's none", x.boat(0, 0), 0);
    }

    private static void lasts() {
        Desk x = new Desk();
        Check.due("lasts", x.lasts(1, 3, 0), 10000);
        Check.due("lasts again", x.lasts(1, 3, 10000), 0);
        Check.due("part 4", x.lasts(1, 4, 1), -2);
        Check.due("part -1", x.lasts(1, -1, 1), -2);
        Check.due("boat 6", x.lasts(6, 0, 1), -2);
        Check.due("too long", x.lasts(1, 0, 10001), -2);
        Check.due("too short", x.lasts(1, 0, -1), -2);
        Check.due("part stays", x.boat(1, 10), 10000);
    }

    private static void counts() {
        Desk x = new Desk();
        Check.skipper(x, 5, "when day above 1 do end;when day above 2 do end;");
        Check.insurer(x, 5, "box 0 0 1 1 from 0 to 1; crew 3;");
        x.feed(1, 2, 3, 4, 5);
        x.deliver(0, 0, 1, 0, 0);
        x.crew(3, 0, 0);
        x.crew(3, 1, 0);
        x.crew(0, 1, 0);
        x.begin(0, 0, 0, 1);
        x.place(0, 100);
        x.sail(0, 5);
        x.port(9, 317);
        int[][] wants = {{0, 5}, {1, 1}, {2, 2}, {3, 20}, {4, -1}, {9, -1}, {10, 0}, {15, 2}, {16, -1}, {19, -1}, {20, 0},
            {25, 1}, {26, -1}, {29, -1}, {30, 0}, {39, 317}, {40, -1}, {-1, -1}, {BIG, -1}, {SMALL, -1}};
        for (int[] w : wants) {
            Check.due("count(" + w[0] + ")", x.count(w[0]), w[1]);
        }
    }
}
