import java.util.ArrayList;
import java.util.Arrays;
import java.util.List;

/**
 * The document a second time, written for the eye and not for the room it takes: what the class answers
 * to any run of calls is held against what this answers.
 */
final class Model {
    static final int NONE = -1;
    static final int RANGE = -2;
    static final int FULL = -3;
    static final int STATE = -4;

    private final List<Integer> tape = new ArrayList<>();
    private final int[][][] winds = new int[24][12][2];
    private final int[] ports = new int[10];
    private final Ship[] ships = new Ship[6];
    private int faultKind = 0;
    private int faultPlace = NONE;
    private int log = 0;
    private final List<int[]> deliveries = new ArrayList<>();
    private final int[][] crews = new int[4][];
    private final int[][] fares = new int[10][10];
    private AllWays plan = null;

    private static final class Ship {
        final int[][] table = new int[5][5];
        final int[] parts = {10000, 10000, 10000, 10000};
        final boolean[] broken = new boolean[4];
        int water = 0;
        List<String[]> rules = new ArrayList<>();
        List<int[]> boxes = new ArrayList<>();
        int crew = 0;
        int force = 9;
        Trip trip = null;

        int brokenParts() {
            int n = 0;
            for (boolean one : broken) {
                n += one ? 1 : 0;
            }
            return n;
        }
    }

    private static final class Trip {
        int port;
        int column;
        int row;
        int day;
        int people;
        List<Integer> way = new ArrayList<>();
        boolean anyWay = false;
        int state = 0;
        int watches = 0;
        int tenths = 0;
        boolean turned = false;
        int cells = 0;
        int waits = 0;
        List<Integer> open = new ArrayList<>();
        int dry = 0;

        int place() {
            return 100 * column + row;
        }

        void pass() {
            while (!way.isEmpty() && way.get(0) == place()) {
                way.remove(0);
            }
            state = way.isEmpty() ? 1 : 0;
        }
    }

    Model() {
        for (int b = 0; b < 6; b++) {
            ships[b] = new Ship();
        }
        for (int[] row : fares) {
            Arrays.fill(row, NONE);
        }
    }

    int call(String name, int... n) {
        switch (name) {
            case "feed": return feed(n);
            case "end": return end(n[0]);
            case "wind": return wind(n[0], n[1], n[2], n[3]);
            case "port": return port(n[0], n[1]);
            case "speed": return speed(n[0], n[1], n[2], n[3]);
            case "water": return water(n[0], n[1]);
            case "lasts": return lasts(n[0], n[1], n[2]);
            case "skipper": return text(n[0], true);
            case "insurer": return text(n[0], false);
            case "fault": return n[0] == 0 ? faultKind : n[0] == 1 ? faultPlace : NONE;
            case "covers": return covers(n[0], n[1], n[2], n[3], n[4]);
            case "begin": return begin(n[0], n[1], n[2], n[3]);
            case "place": return place(n[0], n[1]);
            case "sail": return sail(n[0], n[1]);
            case "passage": return passage(n[0], n[1]);
            case "boat": return boat(n[0], n[1]);
            case "pay": return pay(n[0], n[1], n[2], n[3], n[4]);
            case "deliver": return deliver(n);
            case "crew": return crew(n[0], n[1], n[2]);
            case "flight": return flight(n[0], n[1], n[2]);
            case "plan": return plan();
            case "planned": return planned(n[0]);
            case "count": return count(n[0]);
            default: throw new IllegalArgumentException(name);
        }
    }

    private static boolean out(int number, int least, int most) {
        return number < least || number > most;
    }

    private static boolean noPlace(int place) {
        return place < 0 || place > 2919 || place % 100 > 19;
    }

    private int feed(int[] n) {
        if (tape.size() > 780) {
            return FULL;
        }
        for (int four : n) {
            for (int shift : new int[] {24, 16, 8, 0}) {
                tape.add(four >> shift & 0xff);
            }
        }
        return tape.size();
    }

    private int end(int n) {
        if (out(n, 0, tape.size())) {
            return NONE;
        }
        tape.subList(n, tape.size()).clear();
        return n;
    }

    private int wind(int zone, int month, int direction, int force) {
        if (out(zone, 0, 23) || out(month, 0, 11) || out(direction, 0, 7) || out(force, 0, 9)) {
            return RANGE;
        }
        int[] old = winds[zone][month];
        winds[zone][month] = new int[] {direction, force};
        return 10 * old[0] + old[1];
    }

    private int port(int p, int place) {
        if (out(p, 0, 9) || noPlace(place)) {
            return RANGE;
        }
        int old = ports[p];
        ports[p] = place;
        return old;
    }

    private int speed(int b, int angle, int band, int tenths) {
        if (out(b, 0, 5) || out(angle, 0, 4) || out(band, 0, 4) || out(tenths, 0, 40)) {
            return RANGE;
        }
        int old = ships[b].table[angle][band];
        ships[b].table[angle][band] = tenths;
        return old;
    }

    private int water(int b, int litres) {
        if (out(b, 0, 5) || out(litres, 0, 10000)) {
            return RANGE;
        }
        int old = ships[b].water;
        ships[b].water = litres;
        return old;
    }

    private int lasts(int b, int part, int watches) {
        if (out(b, 0, 5) || out(part, 0, 3) || out(watches, 0, 10000)) {
            return RANGE;
        }
        int old = ships[b].parts[part];
        ships[b].parts[part] = watches;
        ships[b].broken[part] = false;
        return old;
    }

    private int text(int b, boolean rules) {
        if (out(b, 0, 5)) {
            return RANGE;
        }
        ModelText text = new ModelText(tape, rules);
        tape.clear();
        faultKind = text.kind;
        faultPlace = text.place;
        if (text.kind != 0) {
            return NONE;
        }
        if (rules) {
            ships[b].rules = text.done;
            return text.done.size();
        }
        ships[b].boxes = new ArrayList<>();
        ships[b].crew = 0;
        ships[b].force = 9;
        for (String[] line : text.done) {
            if (line[0].equals("box")) {
                ships[b].boxes.add(new int[] {number(line[1]), number(line[2]), number(line[3]), number(line[4]),
                    number(line[6]), number(line[8])});
            } else if (line[0].equals("crew")) {
                ships[b].crew = number(line[1]);
            } else {
                ships[b].force = number(line[1]);
            }
        }
        return text.done.size();
    }

    private static int number(String token) {
        return Integer.parseInt(token);
    }

    private int covers(int b, int place, int day, int crew, int force) {
        if (out(b, 0, 5) || noPlace(place) || out(day, 0, 999) || out(crew, 0, 9) || out(force, 0, 9)) {
            return RANGE;
        }
        return covered(ships[b], place, day, crew, force) ? 1 : 0;
    }

    private static boolean covered(Ship ship, int place, int day, int crew, int force) {
        boolean boxed = false;
        for (int[] box : ship.boxes) {
            boolean columns = (place / 100 - box[0]) * (place / 100 - box[2]) <= 0;
            boolean rows = (place % 100 - box[1]) * (place % 100 - box[3]) <= 0;
            boolean season = false;
            for (int date = box[4]; ; date = (date + 1) % 360) {
                season |= date == day % 360;
                if (date == box[5]) {
                    break;
                }
            }
            boxed |= columns && rows && season;
        }
        return !boxed && crew >= ship.crew && force <= ship.force;
    }

    private int begin(int b, int p, int day, int crew) {
        if (out(b, 0, 5) || out(p, 0, 9) || out(day, 0, 499) || out(crew, 1, 9)) {
            return RANGE;
        }
        if (ships[b].trip != null && ships[b].trip.state == 0) {
            return STATE;
        }
        Trip trip = new Trip();
        trip.port = p;
        trip.column = ports[p] / 100;
        trip.row = ports[p] % 100;
        trip.day = day;
        trip.people = crew;
        ships[b].trip = trip;
        return 1;
    }

    private int place(int b, int place) {
        if (out(b, 0, 5) || noPlace(place)) {
            return RANGE;
        }
        Trip trip = ships[b].trip;
        if (trip == null || trip.state != 0 || trip.watches > 0) {
            return STATE;
        }
        if (trip.way.size() == 8) {
            return FULL;
        }
        trip.way.add(place);
        trip.anyWay = true;
        return trip.way.size();
    }

    private int sail(int b, int watches) {
        if (out(b, 0, 5) || out(watches, 1, 400)) {
            return RANGE;
        }
        Trip trip = ships[b].trip;
        if (trip == null || trip.state != 0 || !trip.anyWay) {
            return STATE;
        }
        if (log == 2000) {
            return FULL;
        }
        int before = log;
        while (log - before < watches && log < 2000 && trip.state == 0) {
            watch(ships[b], trip);
        }
        return log - before;
    }

    private void watch(Ship ship, Trip trip) {
        int days = trip.watches / 4;
        int[] wind = winds[trip.row / 5 * 6 + trip.column / 5][(trip.day + days) % 360 / 30];
        String act = act(ship, wind[1], days);
        if (act.equals("end")) {
            trip.state = 2;
            return;
        }
        if (!covered(ship, trip.place(), trip.day + days, trip.people, wind[1])) {
            trip.open.add(trip.watches);
        }
        if (act.equals("turn") && !trip.turned) {
            trip.turned = true;
            trip.way.clear();
            trip.way.add(ports[trip.port]);
        }
        if (act.equals("wait")) {
            trip.waits++;
        } else {
            go(ship, trip, wind);
        }
        trip.dry += ship.water < trip.people ? 1 : 0;
        ship.water -= Math.min(ship.water, trip.people);
        for (int k = 0; k < 4; k++) {
            ship.broken[k] |= ship.parts[k] == 0;
            ship.parts[k] -= ship.parts[k] == 0 ? 0 : 1;
        }
        trip.watches++;
        log++;
    }

    private static String act(Ship ship, int force, int days) {
        for (String[] rule : ship.rules) {
            int seen = rule[1].equals("force") ? force : rule[1].equals("water") ? ship.water
                : rule[1].equals("day") ? days : ship.brokenParts();
            int bound = number(rule[3]);
            if (rule[2].equals("above") && seen > bound || rule[2].equals("below") && seen < bound) {
                return rule[5];
            }
        }
        return "";
    }

    private static void go(Ship ship, Trip trip, int[] wind) {
        trip.pass();
        if (trip.state != 0) {
            return;
        }
        int[] step = step(trip);
        int course = 0;
        int[][] eight = {{0, -1}, {1, -1}, {1, 0}, {1, 1}, {0, 1}, {-1, 1}, {-1, 0}, {-1, -1}};
        while (!Arrays.equals(eight[course], step)) {
            course++;
        }
        int angle = Math.min((course - wind[0] + 8) % 8, (wind[0] - course + 8) % 8);
        trip.tenths += ship.table[angle][wind[1] / 2];
        while (trip.tenths >= 10) {
            int[] next = step(trip);
            trip.column += next[0];
            trip.row += next[1];
            trip.cells++;
            trip.tenths -= 10;
            trip.pass();
            if (trip.state == 1) {
                trip.tenths = 0;
            }
        }
    }

    private static int[] step(Trip trip) {
        int next = trip.way.get(0);
        return new int[] {Integer.signum(next / 100 - trip.column), Integer.signum(next % 100 - trip.row)};
    }

    private int passage(int b, int what) {
        if (out(b, 0, 5) || ships[b].trip == null || out(what, 0, 10)) {
            return -9;
        }
        Trip t = ships[b].trip;
        int[] all = {t.state, t.watches, t.place(), t.tenths, t.turned ? 1 : 0, t.cells, t.waits, t.open.size(), t.dry,
            t.way.size(), t.open.isEmpty() ? NONE : t.open.get(0)};
        return all[what];
    }

    private int boat(int b, int what) {
        if (out(b, 0, 5) || out(what, 0, 13) || what > 1 && what < 10) {
            return -9;
        }
        Ship ship = ships[b];
        return what == 0 ? ship.water : what == 1 ? ship.brokenParts() : ship.broken[what - 10] ? NONE : ship.parts[what - 10];
    }

    private int pay(int b, int kind, int sum, int less, int more) {
        if (out(b, 0, 5) || out(kind, 0, 1) || out(sum, 0, 100000) || out(less, 0, 1000) || out(more, 0, 1000)) {
            return -2000000000;
        }
        Trip t = ships[b].trip;
        if (t == null) {
            return -2000000001;
        }
        int days = t.watches / 4 + (t.watches % 4 == 0 ? 0 : 1);
        int whole = t.state == 1 && !t.turned ? sum : 0;
        return (kind == 0 ? days * sum : whole) - t.open.size() * less + t.dry * more;
    }

    private int deliver(int[] n) {
        if (out(n[0], 0, 9) || out(n[1], 0, 9) || out(n[2], 1, 200) || out(n[3], 0, 999) || out(n[4], 0, 999) || n[4] < n[3]) {
            return RANGE;
        }
        if (deliveries.size() == 7) {
            return FULL;
        }
        plan = null;
        deliveries.add(n.clone());
        return deliveries.size() - 1;
    }

    private int crew(int c, int port, int day) {
        if (out(c, 0, 3) || out(port, 0, 9) || out(day, 0, 999)) {
            return RANGE;
        }
        plan = null;
        crews[c] = new int[] {port, day};
        return 1;
    }

    private int flight(int p, int q, int cost) {
        if (out(p, 0, 9) || out(q, 0, 9) || p == q || out(cost, -1, 10000)) {
            return RANGE;
        }
        plan = null;
        int old = fares[p][q];
        fares[p][q] = cost;
        fares[q][p] = cost;
        return old;
    }

    private int plan() {
        if (plan == null) {
            plan = new AllWays(deliveries, crews, fares);
            plan.solve();
        }
        return plan.done;
    }

    private int planned(int what) {
        if (plan == null) {
            return -9;
        }
        int size = deliveries.size();
        if (!out(what, 10, 9 + size)) {
            return plan.row[what - 10] == 4 ? NONE : plan.row[what - 10];
        }
        return what == 0 ? plan.sum : out(what, 20, 19 + size) ? -9 : plan.days[what - 20];
    }

    private int count(int what) {
        if (!out(what, 10, 15)) {
            return ships[what - 10].rules.size();
        }
        if (!out(what, 20, 25)) {
            return ships[what - 20].boxes.size();
        }
        if (!out(what, 30, 39)) {
            return ports[what - 30];
        }
        int told = 0;
        for (int[] crew : crews) {
            told += crew == null ? 0 : 1;
        }
        return what == 0 ? log : what == 1 ? deliveries.size() : what == 2 ? told : what == 3 ? tape.size() : NONE;
    }
}
