import java.util.Arrays;
import java.util.List;

/** The plan by trying every row of crews, and for each crew every order that can be of what it is given. */
final class AllWays {
    private final int n;
    private final List<int[]> deliveries;
    private final int[][] crews;
    private final int[][] fares;
    private final int[][] cheapest = new int[4][128];
    private final int[][][] orders = new int[4][128][];
    int done = -1;
    int sum;
    int[] row;
    int[] days;

    /** Deliveries as deliver() takes them, crews as port and day (null: untold), fares from port to port (-1: none). */
    AllWays(List<int[]> deliveries, int[][] crews, int[][] fares) {
        this.n = deliveries.size();
        this.deliveries = deliveries;
        this.crews = crews;
        this.fares = fares;
    }

    void solve() {
        for (int c = 0; c < 4; c++) {
            Arrays.fill(cheapest[c], -1);
            cheapest[c][0] = 0;
            orders[c][0] = new int[0];
            if (crews[c] != null) {
                tryOrders(c, new int[0]);
            }
        }
        tryRows(new int[n], 0);
        days = new int[n];
        Arrays.fill(days, -1);
        for (int c = 0; c < 4; c++) {
            walk(c, orders[c][given(row, c)], days);
        }
    }

    private void tryOrders(int c, int[] order) {
        for (int d = 0; d < n; d++) {
            int next = d;
            if (Arrays.stream(order).noneMatch(e -> e == next)) {
                int[] longer = Arrays.copyOf(order, order.length + 1);
                longer[order.length] = d;
                int cost = walk(c, longer, new int[n]);
                int set = Arrays.stream(longer).map(e -> 1 << e).sum();
                if (cost >= 0) {
                    if (cheapest[c][set] < 0 || cost < cheapest[c][set]) {
                        cheapest[c][set] = cost;
                        orders[c][set] = longer;
                    }
                    tryOrders(c, longer);
                }
            }
        }
    }

    /** The cost of an order, or -1 when it can't be; the days are written down. */
    private int walk(int c, int[] order, int[] starts) {
        int cost = 0;
        int port = crews[c] == null ? 0 : crews[c][0];
        int day = crews[c] == null ? 0 : crews[c][1];
        for (int d : order) {
            int[] v = deliveries.get(d);
            if (port != v[0]) {
                if (fares[port][v[0]] < 0) {
                    return -1;
                }
                cost += fares[port][v[0]];
                day++;
            }
            day = Math.max(day, v[3]);
            if (day > v[4]) {
                return -1;
            }
            starts[d] = day;
            day += v[2];
            port = v[1];
        }
        return cost;
    }

    private static int given(int[] row, int c) {
        int set = 0;
        for (int d = 0; d < row.length; d++) {
            set |= row[d] == c ? 1 << d : 0;
        }
        return set;
    }

    private void tryRows(int[] tried, int d) {
        if (d < n) {
            for (int c = 0; c <= 4; c++) {
                tried[d] = c;
                tryRows(tried, d + 1);
            }
            return;
        }
        int cost = 0;
        int size = 0;
        for (int c = 0; c < 4; c++) {
            int set = given(tried, c);
            if (cheapest[c][set] < 0) {
                return;
            }
            cost += cheapest[c][set];
            size += Integer.bitCount(set);
        }
        if (size > done || size == done && cost < sum) {
            done = size;
            sum = cost;
            row = tried.clone();
        }
    }
}
