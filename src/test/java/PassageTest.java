/** Promises 13 to 17: passages watch by watch, and what becomes of the boats. */
public final class PassageTest {
    private static final int[] COLUMN_STEPS = {0, 1, 1, 1, 0, -1, -1, -1};
    private static final int[] ROW_STEPS = {-1, -1, 0, 1, 1, 1, 0, -1};

    public static void main(String[] args) {
        beginEdges();
        placeEdges();
        sailEdges();
        askEdges();
        coursesAndAngles();
        bands();
        windByZoneAndMonth();
        cellsAndRests();
        courseChanges();
        windOfTheBeginning();
        waiting();
        strictBounds();
        firstRuleActs();
        turning();
        arrivingAtOnce();
        givingUp();
        drinking();
        wearing();
        seenBroken();
        cover();
        aNewPassage();
        log();
        Check.finish();
    }

    /** Boat 0 on its way from port 0, at a place, with one person. */
    private static Desk under(int from, int tenths, int... way) {
        Desk x = new Desk();
        x.port(0, from);
        Check.steady(x, 0, tenths);
        Check.due("begin", x.begin(0, 0, 0, 1), 1);
        for (int k = 0; k < way.length; k++) {
            Check.due("place", x.place(0, way[k]), k + 1);
        }
        return x;
    }

    private static void beginEdges() {
        Desk x = new Desk();
        int[][] bad = {{-1, 0, 0, 1}, {6, 0, 0, 1}, {0, -1, 0, 1}, {0, 10, 0, 1}, {0, 0, -1, 1}, {0, 0, 500, 1},
            {0, 0, 0, 0}, {0, 0, 0, 10}};
        for (int[] v : bad) {
            Check.due("bad begin", x.begin(v[0], v[1], v[2], v[3]), -2);
        }
        Check.due("none begun", x.passage(0, 0), -9);
        x.port(9, 2919);
        Check.due("begin", x.begin(0, 9, 499, 9), 1);
        Check.passage("begun", x, 0, 0, 0, 2919, 0, 0, 0, 0, 0, 0, 0, -1);
        Check.due("begin again", x.begin(0, 9, 499, 9), -4);
        Check.due("RANGE ahead of STATE", x.begin(0, 9, 500, 9), -2);
        Check.due("another boat", x.begin(5, 0, 0, 1), 1);
    }

    private static void placeEdges() {
        Desk x = new Desk();
        Check.due("place of none", x.place(0, 0), -4);
        Check.due("bad place of none", x.place(0, 20), -2);
        x.begin(0, 0, 0, 1);
        for (int k = 1; k <= 8; k++) {
            Check.due("place " + k, x.place(0, 2919), k);
        }
        Check.due("left", x.passage(0, 9), 8);
        Check.due("the ninth", x.place(0, 0), -3);
        Check.due("a bad ninth", x.place(0, 3000), -2);
        Check.due("boat 6", x.place(6, 0), -2);
        Check.due("boat -1", x.place(-1, 0), -2);
        Check.due("place -1", x.place(0, -1), -2);
        Check.due("sail", x.sail(0, 1), 1);
        Check.due("STATE ahead of FULL", x.place(0, 0), -4);
        x.begin(1, 0, 0, 1);
        x.place(1, 300);
        x.sail(1, 1);
        Check.due("a watch was worked", x.place(1, 0), -4);
    }

    private static void sailEdges() {
        Desk x = new Desk();
        Check.due("sail of none", x.sail(0, 1), -4);
        x.begin(0, 0, 0, 1);
        Check.due("empty way", x.sail(0, 1), -4);
        Check.due("still on it", x.place(0, 2900), 1);
        Check.due("0 watches", x.sail(0, 0), -2);
        Check.due("401 watches", x.sail(0, 401), -2);
        Check.due("boat 6", x.sail(6, 1), -2);
        Check.due("boat -1", x.sail(-1, 1), -2);
        Check.due("400 watches", x.sail(0, 400), 400);
        Check.due("worked", x.count(0), 400);
        Desk y = under(0, 10, 200);
        Check.due("only as long as it goes on", y.sail(0, 9), 2);
        Check.due("sail when arrived", y.sail(0, 1), -4);
    }

    private static void askEdges() {
        Desk x = under(0, 10, 200);
        Check.due("passage what 11", x.passage(0, 11), -9);
        Check.due("passage what -1", x.passage(0, -1), -9);
        Check.due("passage of boat 6", x.passage(6, 0), -9);
        Check.due("passage of boat -1", x.passage(-1, 0), -9);
        Check.due("passage of boat 1", x.passage(1, 0), -9);
        for (int what : new int[] {-1, 2, 9, 14, Integer.MAX_VALUE, Integer.MIN_VALUE}) {
            Check.due("boat what " + what, x.boat(0, what), -9);
        }
        Check.due("boat 6", x.boat(6, 0), -9);
        Check.due("boat -1", x.boat(-1, 10), -9);
    }

    private static void coursesAndAngles() {
        for (int course = 0; course < 8; course++) {
            for (int direction = 0; direction < 8; direction++) {
                int target = 1207 + 100 * COLUMN_STEPS[course] + ROW_STEPS[course];
                Desk x = under(1207, 0, target);
                for (int angle = 0; angle <= 4; angle++) {
                    x.speed(0, angle, 0, angle + 1);
                    x.speed(0, angle, 1, 20 + angle);
                }
                x.wind(8, 0, direction, 1);
                x.sail(0, 1);
                int away = Math.floorMod(course - direction, 8);
                Check.due("course " + course + " wind " + direction, x.passage(0, 3), 1 + Math.min(away, 8 - away));
                x.wind(8, 0, direction, 2);
                Check.due("it goes there", x.sail(0, 1), 1);
                Check.due("course " + course, x.passage(0, 2), target);
                Check.due("arrived", x.passage(0, 0), 1);
            }
        }
        Desk far = under(1207, 10, 1419);
        far.sail(0, 1);
        Check.due("signs alone make the course", far.passage(0, 2), 1308);
    }

    private static void bands() {
        for (int force = 0; force <= 9; force++) {
            Desk x = under(0, 0, 2900);
            for (int band = 0; band <= 4; band++) {
                x.speed(0, 2, band, band + 1);
            }
            x.wind(0, 0, 0, force);
            x.sail(0, 1);
            Check.due("force " + force, x.passage(0, 3), force / 2 + 1);
        }
    }

    private static void windByZoneAndMonth() {
        int[] places = {0, 404, 500, 405, 2919, 2515, 1014};
        int[] zones = {0, 0, 1, 6, 23, 23, 14};
        for (int k = 0; k < places.length; k++) {
            Desk x = new Desk();
            x.port(0, places[k]);
            Check.insurer(x, 0, "force 0;");
            x.wind(zones[k], 2, 0, 1);
            x.begin(0, 0, 360 + 59, 1);
            x.place(0, places[k] == 1500 ? 0 : 1500);
            x.sail(0, 4);
            Check.due("day 59 at " + places[k], x.passage(0, 7), 0);
            x.sail(0, 4);
            Check.due("day 60 at " + places[k], x.passage(0, 7), 4);
            Check.due("first of them", x.passage(0, 10), 4);
        }
        Desk y = new Desk();
        Check.insurer(y, 0, "force 0;");
        y.wind(0, 11, 0, 1);
        y.begin(0, 0, 359, 1);
        y.place(0, 1500);
        y.sail(0, 8);
        Check.due("the year's last day alone", y.passage(0, 7), 4);
    }

    private static void cellsAndRests() {
        Desk x = under(0, 25, 505);
        x.sail(0, 1);
        Check.passage("25 tenths", x, 0, 0, 1, 202, 5, 0, 2, 0, 0, 1, 1, -1);
        x.sail(0, 1);
        Check.passage("30 tenths", x, 0, 1, 2, 505, 0, 0, 5, 0, 0, 2, 0, -1);
        Desk y = under(0, 9, 2900);
        y.sail(0, 1);
        Check.due("9 are not ten", y.passage(0, 5), 0);
        Check.due("9 stay", y.passage(0, 3), 9);
        y.sail(0, 1);
        Check.due("18 are one cell", y.passage(0, 5), 1);
        Check.due("8 stay", y.passage(0, 3), 8);
        Check.steady(y, 0, 40);
        y.sail(0, 1);
        Check.due("48 are four cells", y.passage(0, 2), 500);
    }

    private static void courseChanges() {
        Desk x = under(0, 40, 103);
        x.sail(0, 1);
        Check.passage("a bend, and what is over is lost", x, 0, 1, 1, 103, 0, 0, 3, 0, 0, 1, 0, -1);
        Desk y = under(0, 40, 0, 0, 100, 100, 102, 0);
        y.sail(0, 1);
        Check.passage("round corners", y, 0, 0, 1, 1, 0, 0, 4, 0, 0, 1, 1, -1);
        y.sail(0, 1);
        Check.passage("and home", y, 0, 1, 2, 0, 0, 0, 5, 0, 0, 2, 0, -1);
    }

    /** The wind of where the watch begins does for all its cells. */
    private static void windOfTheBeginning() {
        Desk x = under(400, 0, 2900);
        x.speed(0, 0, 1, 40);
        x.speed(0, 4, 1, 1);
        x.wind(0, 0, 2, 2);
        x.wind(1, 0, 6, 2);
        x.sail(0, 1);
        Check.due("forty", x.passage(0, 2), 800);
        x.sail(0, 1);
        Check.due("one", x.passage(0, 3), 1);
    }

    private static void waiting() {
        Desk x = under(400, 6, 400, 2900);
        Check.skipper(x, 0, "when force above 3 do wait;");
        x.water(0, 3);
        x.wind(0, 0, 2, 4);
        x.sail(0, 2);
        Check.passage("waiting", x, 0, 0, 2, 400, 0, 0, 0, 2, 0, 0, 2, -1);
        Check.due("it drinks", x.boat(0, 0), 1);
        Check.due("it wears", x.boat(0, 10), 9998);
        x.wind(0, 0, 2, 3);
        x.sail(0, 1);
        Check.passage("going", x, 0, 0, 3, 400, 6, 0, 0, 2, 0, 0, 1, -1);
        x.wind(0, 0, 2, 9);
        x.sail(0, 1);
        Check.passage("waiting again", x, 0, 0, 4, 400, 6, 0, 0, 3, 0, 1, 1, -1);
    }

    private static void held(String rule, int force, int water, int want) {
        Desk x = under(0, 0, 2900);
        Check.skipper(x, 0, rule);
        x.wind(0, 0, 0, force);
        x.water(0, water);
        x.sail(0, 1);
        Check.due(rule + " at " + force + ", " + water, x.passage(0, 6), want);
    }

    private static void strictBounds() {
        held("when force above 4 do wait;", 4, 0, 0);
        held("when force above 4 do wait;", 5, 0, 1);
        held("when force below 4 do wait;", 4, 0, 0);
        held("when force below 4 do wait;", 3, 0, 1);
        held("when water above 9999 do wait;", 0, 9999, 0);
        held("when water above 9999 do wait;", 0, 10000, 1);
        held("when water below 1 do wait;", 0, 1, 0);
        held("when water below 1 do wait;", 0, 0, 1);
        held("when day below 1 do wait;", 0, 0, 1);
        held("when day above 0 do wait;", 0, 0, 0);
        held("when broken below 0 do wait;", 0, 0, 0);
        held("when broken below 1 do wait;", 0, 0, 1);
        Desk x = under(0, 0, 2900);
        Check.skipper(x, 0, "when day above 1 do wait;");
        x.sail(0, 8);
        Check.due("on its second day", x.passage(0, 6), 0);
        x.sail(0, 2);
        Check.due("on its third day", x.passage(0, 6), 2);
    }

    private static void firstRuleActs() {
        Desk x = under(0, 10, 2900);
        Check.skipper(x, 0, "when force above 5 do end; when force above 3 do wait; when force above 3 do end;");
        x.wind(0, 0, 2, 4);
        Check.due("the second", x.sail(0, 1), 1);
        Check.due("waited", x.passage(0, 6), 1);
        x.wind(0, 0, 2, 3);
        Check.due("none", x.sail(0, 1), 1);
        Check.due("gone", x.passage(0, 5), 1);
        x.wind(0, 0, 2, 6);
        Check.due("the first", x.sail(0, 1), 0);
        Check.due("given up", x.passage(0, 0), 2);
    }

    private static void turning() {
        Desk x = under(300, 15, 500, 800, 2900);
        Check.skipper(x, 0, "when force above 5 do turn;");
        x.wind(1, 0, 0, 6);
        x.sail(0, 2);
        Check.passage("out", x, 0, 0, 2, 600, 0, 0, 3, 0, 0, 2, 2, -1);
        x.sail(0, 1);
        Check.passage("turned", x, 0, 0, 3, 500, 5, 1, 4, 0, 0, 3, 1, -1);
        x.wind(1, 0, 0, 0);
        x.sail(0, 1);
        Check.passage("home", x, 0, 1, 4, 300, 0, 1, 6, 0, 0, 4, 0, -1);
    }

    private static void arrivingAtOnce() {
        Desk x = under(0, 40, 0, 0, 0);
        Check.due("one watch", x.sail(0, 9), 1);
        Check.passage("there already", x, 0, 1, 1, 0, 0, 0, 0, 0, 0, 1, 0, -1);
        Check.due("it wears", x.boat(0, 12), 9999);
    }

    private static void givingUp() {
        Desk x = under(0, 10, 2900);
        Check.skipper(x, 0, "when water below 3 do end;");
        Check.insurer(x, 0, "crew 2;");
        x.water(0, 4);
        Check.due("two watches", x.sail(0, 50), 2);
        Check.passage("given up", x, 0, 2, 2, 200, 0, 0, 2, 0, 2, 0, 1, 0);
        Check.due("nothing more is done", x.boat(0, 0), 2);
        Check.due("no wear", x.boat(0, 11), 9998);
        Check.due("log", x.count(0), 2);
        Check.due("sail", x.sail(0, 1), -4);
        Check.due("place", x.place(0, 0), -4);
        Check.due("begin", x.begin(0, 0, 0, 1), 1);
        x.place(0, 100);
        Check.due("at once", x.sail(0, 5), 0);
        Check.passage("no watch", x, 0, 2, 0, 0, 0, 0, 0, 0, 0, 0, 1, -1);
    }

    private static void drinking() {
        Desk x = new Desk();
        x.begin(0, 0, 0, 3);
        x.place(0, 2900);
        x.water(0, 7);
        int[] left = {4, 1, 0, 0};
        int[] dry = {0, 0, 1, 2};
        for (int k = 0; k < 4; k++) {
            x.sail(0, 1);
            Check.due("water left", x.boat(0, 0), left[k]);
            Check.due("dry", x.passage(0, 8), dry[k]);
        }
        x.water(0, 3);
        x.sail(0, 1);
        Check.due("just enough", x.passage(0, 8), 2);
    }

    private static void wearing() {
        Desk x = under(0, 0, 2900);
        x.lasts(0, 2, 1);
        x.lasts(0, 3, 0);
        x.sail(0, 1);
        Check.due("lasts no more", x.boat(0, 12), 0);
        Check.due("broken", x.boat(0, 13), -1);
        Check.due("one broken", x.boat(0, 1), 1);
        x.sail(0, 2);
        Check.due("broken too", x.boat(0, 12), -1);
        Check.due("stays broken", x.boat(0, 13), -1);
        Check.due("two broken", x.boat(0, 1), 2);
        Check.due("it was broken", x.lasts(0, 3, 5), 0);
        Check.due("mended", x.boat(0, 1), 1);
        Check.due("mended with 0", x.lasts(0, 2, 0), 0);
        Check.due("all whole", x.boat(0, 1), 0);
        Check.due("other boats lie still", x.boat(1, 10), 10000);
        Check.due("whole part", x.boat(0, 10), 9997);
    }

    private static void seenBroken() {
        Desk x = under(0, 0, 2900);
        Check.skipper(x, 0, "when broken above 1 do end;");
        x.lasts(0, 0, 1);
        x.lasts(0, 1, 3);
        Check.due("till the second breaks", x.sail(0, 50), 4);
        Check.due("given up", x.passage(0, 0), 2);
    }

    private static void cover() {
        Desk x = under(0, 10, 2900);
        Check.insurer(x, 0, "box 2 0 3 0 from 0 to 0; box 6 0 6 0 from 0 to 0; box 9 0 9 0 from 2 to 2;");
        x.sail(0, 12);
        Check.due("by the watch's beginning and date", x.passage(0, 7), 3);
        Check.due("the first", x.passage(0, 10), 2);
        Check.insurer(x, 0, "crew 2;");
        x.sail(0, 1);
        Check.due("by the text of now", x.passage(0, 7), 4);
        Check.due("the first stays", x.passage(0, 10), 2);
    }

    private static void aNewPassage() {
        Desk x = under(0, 10, 100, 200);
        Check.insurer(x, 0, "crew 9;");
        Check.skipper(x, 0, "when day above 9 do wait;");
        x.sail(0, 9);
        x.port(3, 505);
        Check.due("begin", x.begin(0, 3, 7, 2), 1);
        Check.passage("new", x, 0, 0, 0, 505, 0, 0, 0, 0, 0, 0, 0, -1);
        Check.due("rules stay", x.count(10), 1);
        Check.due("wear stays", x.boat(0, 10), 9998);
        Check.due("empty way", x.sail(0, 1), -4);
        Check.due("place", x.place(0, 605), 1);
        Check.due("sail", x.sail(0, 9), 1);
        Check.due("log goes on", x.count(0), 3);
    }

    private static void log() {
        Desk x = new Desk();
        x.begin(0, 0, 499, 1);
        x.place(0, 2900);
        for (int k = 0; k < 4; k++) {
            Check.due("400", x.sail(0, 400), 400);
        }
        x.begin(1, 0, 499, 1);
        x.place(1, 2900);
        Check.due("399", x.sail(1, 399), 399);
        Check.due("the last one", x.sail(0, 400), 1);
        Check.due("log", x.count(0), 2000);
        Check.due("FULL", x.sail(0, 1), -3);
        Check.due("FULL for all", x.sail(1, 1), -3);
        Check.due("it goes on", x.passage(0, 0), 0);
        Check.due("its watches", x.passage(0, 1), 1601);
        x.begin(2, 0, 0, 1);
        Check.due("STATE ahead of FULL", x.sail(2, 1), -4);
        x.place(2, 100);
        Check.due("FULL", x.sail(2, 1), -3);
        Check.due("RANGE ahead of all", x.sail(2, 0), -2);
        Check.due("it goes on too", x.passage(2, 0), 0);
    }
}
