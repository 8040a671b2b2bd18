import java.util.ArrayList;
import java.util.List;
import java.util.Random;

/** Promises 19 to 23: deliveries, crews, flights, and the plan against all ways tried one by one. */
public final class PlanTest {
    public static void main(String[] args) {
        deliverEdges();
        crewEdges();
        flightEdges();
        plannedEdges();
        aDayOfFlight();
        mostAheadOfCheapest();
        leastRowOfCrews();
        leastOrder();
        Random random = new Random(20261118);
        for (int k = 0; k < 400; k++) {
            againstAllWays(random, 1 + k % 7);
        }
        Check.finish();
    }

    private static void deliverEdges() {
        Desk x = new Desk();
        int[][] bad = {{-1, 0, 1, 0, 0}, {10, 0, 1, 0, 0}, {0, -1, 1, 0, 0}, {0, 10, 1, 0, 0}, {0, 1, 0, 0, 0},
            {0, 1, 201, 0, 0}, {0, 1, 1, -1, 0}, {0, 1, 1, 0, 1000}, {0, 1, 1, 5, 4}, {0, 1, 1, 1000, 1000}};
        for (int[] v : bad) {
            Check.due("bad deliver", x.deliver(v[0], v[1], v[2], v[3], v[4]), -2);
        }
        Check.due("none yet", x.count(1), 0);
        for (int k = 0; k < 7; k++) {
            Check.due("deliver", x.deliver(9, 9, 200, 999, 999), k);
        }
        Check.due("the eighth", x.deliver(0, 1, 1, 0, 0), -3);
        Check.due("a bad eighth", x.deliver(0, 1, 0, 0, 0), -2);
        Check.due("seven", x.count(1), 7);
        Check.due("no crews", x.plan(), 0);
        Check.due("given to none", x.planned(16), -1);
        Check.due("on no day", x.planned(26), -1);
    }

    private static void crewEdges() {
        Desk x = new Desk();
        int[][] bad = {{-1, 0, 0}, {4, 0, 0}, {0, -1, 0}, {0, 10, 0}, {0, 0, -1}, {0, 0, 1000}};
        for (int[] v : bad) {
            Check.due("bad crew", x.crew(v[0], v[1], v[2]), -2);
        }
        Check.due("none told", x.count(2), 0);
        Check.due("crew", x.crew(3, 9, 999), 1);
        x.deliver(9, 8, 1, 999, 999);
        Check.due("on the last day", x.plan(), 1);
        Check.due("by crew 3", x.planned(10), 3);
        Check.due("on day 999", x.planned(20), 999);
        Check.due("told anew", x.crew(3, 8, 0), 1);
        Check.due("it isn't there", x.plan(), 0);
    }

    private static void flightEdges() {
        Desk x = new Desk();
        int[][] bad = {{-1, 0, 0}, {10, 0, 0}, {0, -1, 0}, {0, 10, 0}, {3, 3, 0}, {0, 1, -2}, {0, 1, 10001}};
        for (int[] v : bad) {
            Check.due("bad flight", x.flight(v[0], v[1], v[2]), -2);
        }
        Check.due("flight", x.flight(0, 9, 10000), -1);
        Check.due("either way", x.flight(9, 0, 0), 10000);
        Check.due("for nothing", x.flight(0, 9, -1), 0);
        Check.due("none again", x.flight(0, 9, 5), -1);
        x.crew(0, 9, 0);
        x.deliver(0, 1, 1, 0, 9);
        Check.due("with a flight", x.plan(), 1);
        Check.due("its cost", x.planned(0), 5);
        x.flight(9, 0, -1);
        Check.due("without", x.plan(), 0);
    }

    private static void plannedEdges() {
        Desk x = new Desk();
        Check.due("none made", x.planned(0), -9);
        x.deliver(0, 1, 1, 0, 9);
        x.crew(0, 0, 0);
        Check.due("plan", x.plan(), 1);
        Check.due("plan again", x.plan(), 1);
        for (int what : new int[] {-1, 1, 9, 11, 19, 21, 30, Integer.MAX_VALUE, Integer.MIN_VALUE}) {
            Check.due("planned(" + what + ")", x.planned(what), -9);
        }
        x.deliver(0, 1, 0, 0, 9);
        x.crew(4, 0, 0);
        x.flight(0, 0, 0);
        x.port(0, 5);
        Check.due("RANGE tells nothing", x.planned(10), 0);
        x.crew(0, 0, 0);
        Check.due("a crew was told", x.planned(0), -9);
        x.plan();
        x.flight(0, 1, -1);
        Check.due("a flight was told", x.planned(0), -9);
        x.plan();
        x.deliver(0, 1, 1, 0, 9);
        Check.due("a delivery was told", x.planned(0), -9);
        for (int k = 2; k < 7; k++) {
            x.deliver(0, 1, 1, 0, 9);
        }
        x.plan();
        Check.due("FULL", x.deliver(0, 1, 1, 0, 9), -3);
        Check.due("FULL tells nothing", x.planned(0), 0);
    }

    private static void aDayOfFlight() {
        Desk x = new Desk();
        x.crew(0, 0, 4);
        x.flight(0, 1, 1);
        x.deliver(1, 0, 3, 0, 5);
        x.deliver(0, 0, 2, 0, 8);
        Check.due("both", x.plan(), 2);
        Check.due("a day later", x.planned(20), 5);
        Check.due("as soon as it is free", x.planned(21), 8);
        Desk y = new Desk();
        y.crew(0, 0, 5);
        y.flight(0, 1, 1);
        y.deliver(1, 0, 3, 0, 5);
        Check.due("a day too late", y.plan(), 0);
    }

    private static void mostAheadOfCheapest() {
        Desk x = new Desk();
        x.crew(0, 0, 0);
        x.deliver(0, 0, 10, 0, 0);
        x.deliver(1, 1, 1, 1, 1);
        x.deliver(1, 1, 1, 2, 2);
        x.flight(0, 1, 10000);
        Check.due("two dear ones", x.plan(), 2);
        Check.due("their flight", x.planned(0), 10000);
        Check.due("not the first", x.planned(10), -1);
    }

    private static void leastRowOfCrews() {
        Desk x = new Desk();
        for (int c = 3; c >= 1; c--) {
            x.crew(c, 0, 0);
        }
        for (int k = 0; k < 4; k++) {
            x.deliver(0, 0, 1, 0, 0);
        }
        Check.due("three", x.plan(), 3);
        int[] wants = {1, 2, 3, -1};
        for (int d = 0; d < 4; d++) {
            Check.due("crew of " + d, x.planned(10 + d), wants[d]);
        }
        x.crew(0, 0, 0);
        Check.due("four", x.plan(), 4);
        for (int d = 0; d < 4; d++) {
            Check.due("crew of " + d, x.planned(10 + d), d);
        }
    }

    private static void leastOrder() {
        Desk x = new Desk();
        x.crew(0, 0, 0);
        x.deliver(0, 0, 5, 3, 100);
        x.deliver(0, 0, 5, 0, 100);
        Check.due("both", x.plan(), 2);
        Check.due("0 is first", x.planned(20), 3);
        Check.due("1 behind it", x.planned(21), 8);
    }

    private static void againstAllWays(Random random, int n) {
        Desk x = new Desk();
        List<int[]> deliveries = new ArrayList<>();
        int[][] crews = new int[4][];
        int[][] fares = new int[10][10];
        int ports = 1 + random.nextInt(4);
        int horizon = 10 + random.nextInt(60);
        for (int d = 0; d < n; d++) {
            int first = random.nextInt(horizon);
            int[] v = {random.nextInt(ports), random.nextInt(ports), 1 + random.nextInt(12), first, first + random.nextInt(horizon)};
            deliveries.add(v);
            Check.due("deliver", x.deliver(v[0], v[1], v[2], v[3], v[4]), d);
        }
        for (int c = 0; c < 4; c++) {
            if (random.nextInt(3) > 0) {
                crews[c] = new int[] {random.nextInt(ports), random.nextInt(horizon)};
                x.crew(c, crews[c][0], crews[c][1]);
            }
        }
        for (int p = 0; p < ports; p++) {
            for (int q = p + 1; q < ports; q++) {
                int cost = random.nextInt(4) == 0 ? -1 : random.nextInt(5) * 10;
                fares[p][q] = cost;
                fares[q][p] = cost;
                x.flight(p, q, cost);
            }
        }
        AllWays all = new AllWays(deliveries, crews, fares);
        all.solve();
        Check.due("done of " + n, x.plan(), all.done);
        Check.due("sum of flights", x.planned(0), all.sum);
        for (int d = 0; d < n; d++) {
            Check.due("crew of " + d, x.planned(10 + d), all.row[d] == 4 ? -1 : all.row[d]);
            Check.due("day of " + d, x.planned(20 + d), all.days[d]);
        }
    }
}
