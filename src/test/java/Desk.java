/**
 * A BoatsHome whose calls are counted: what one answers behind its 512th call is free, so a test that
 * asks for more is wrong itself.
 */
final class Desk {
    private static final int MOST_CALLS = 512;

    private final BoatsHome home = new BoatsHome();
    private int calls = 0;

    /** How many calls more may be made. */
    int callsLeft() {
        return MOST_CALLS - calls;
    }

    private BoatsHome counted() {
        calls++;
        Check.due("calls of one object are at most " + MOST_CALLS, calls <= MOST_CALLS ? 1 : 0, 1);
        return home;
    }

    int feed(int a, int b, int c, int d, int e) {
        return counted().feed(a, b, c, d, e);
    }

    int end(int n) {
        return counted().end(n);
    }

    int wind(int zone, int month, int direction, int force) {
        return counted().wind(zone, month, direction, force);
    }

    int port(int p, int place) {
        return counted().port(p, place);
    }

    int speed(int b, int angle, int band, int tenths) {
        return counted().speed(b, angle, band, tenths);
    }

    int water(int b, int litres) {
        return counted().water(b, litres);
    }

    int lasts(int b, int part, int watches) {
        return counted().lasts(b, part, watches);
    }

    int skipper(int b) {
        return counted().skipper(b);
    }

    int insurer(int b) {
        return counted().insurer(b);
    }

    int fault(int what) {
        return counted().fault(what);
    }

    int covers(int b, int place, int day, int crew, int force) {
        return counted().covers(b, place, day, crew, force);
    }

    int begin(int b, int p, int day, int crew) {
        return counted().begin(b, p, day, crew);
    }

    int place(int b, int place) {
        return counted().place(b, place);
    }

    int sail(int b, int watches) {
        return counted().sail(b, watches);
    }

    int passage(int b, int what) {
        return counted().passage(b, what);
    }

    int boat(int b, int what) {
        return counted().boat(b, what);
    }

    int pay(int b, int kind, int sum, int less, int more) {
        return counted().pay(b, kind, sum, less, more);
    }

    int deliver(int from, int to, int days, int first, int last) {
        return counted().deliver(from, to, days, first, last);
    }

    int crew(int c, int port, int day) {
        return counted().crew(c, port, day);
    }

    int flight(int p, int q, int cost) {
        return counted().flight(p, q, cost);
    }

    int plan() {
        return counted().plan();
    }

    int planned(int what) {
        return counted().planned(what);
    }

    int count(int what) {
        return counted().count(what);
    }

    /** A call by its name. */
    int call(String name, int... n) {
        switch (name) {
            case "feed": return feed(n[0], n[1], n[2], n[3], n[4]);
            case "end": return end(n[0]);
            case "wind": return wind(n[0], n[1], n[2], n[3]);
            case "port": return port(n[0], n[1]);
            case "speed": return speed(n[0], n[1], n[2], n[3]);
            case "water": return water(n[0], n[1]);
            case "lasts": return lasts(n[0], n[1], n[2]);
            case "skipper": return skipper(n[0]);
            case "insurer": return insurer(n[0]);
            case "fault": return fault(n[0]);
            case "covers": return covers(n[0], n[1], n[2], n[3], n[4]);
            case "begin": return begin(n[0], n[1], n[2], n[3]);
            case "place": return place(n[0], n[1]);
            case "sail": return sail(n[0], n[1]);
            case "passage": return passage(n[0], n[1]);
            case "boat": return boat(n[0], n[1]);
            case "pay": return pay(n[0], n[1], n[2], n[3], n[4]);
            case "deliver": return deliver(n[0], n[1], n[2], n[3], n[4]);
            case "crew": return crew(n[0], n[1], n[2]);
            case "flight": return flight(n[0], n[1], n[2]);
            case "plan": return plan();
            case "planned": return planned(n[0]);
            case "count": return count(n[0]);
            default: throw new IllegalArgumentException(name);
        }
    }
}
