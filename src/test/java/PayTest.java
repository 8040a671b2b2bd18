/** Promise 18: what a passage is paid. */
public final class PayTest {
    private static final int RANGE = -2000000000;
    private static final int STATE = -2000000001;

    public static void main(String[] args) {
        edges();
        byTheDay();
        asAWhole();
        Check.finish();
    }

    private static void edges() {
        Desk x = new Desk();
        Check.due("none begun", x.pay(0, 0, 0, 0, 0), STATE);
        int[][] bad = {{-1, 0, 0, 0, 0}, {6, 0, 0, 0, 0}, {0, -1, 0, 0, 0}, {0, 2, 0, 0, 0}, {0, 0, -1, 0, 0},
            {0, 0, 100001, 0, 0}, {0, 0, 0, -1, 0}, {0, 0, 0, 1001, 0}, {0, 0, 0, 0, -1}, {0, 0, 0, 0, 1001}};
        for (int[] v : bad) {
            Check.due("bad pay", x.pay(v[0], v[1], v[2], v[3], v[4]), RANGE);
        }
        x.begin(0, 0, 0, 1);
        Check.due("begun, no watch", x.pay(0, 0, 100000, 1000, 1000), 0);
        Check.due("boat 1 not begun", x.pay(1, 0, 1, 1, 1), STATE);
    }

    private static void byTheDay() {
        Desk x = new Desk();
        Check.insurer(x, 0, "box 0 0 0 0 from 1 to 1;");
        x.begin(0, 0, 0, 2);
        x.place(0, 2900);
        x.water(0, 6);
        int[] wants = {100, 100, 100, 110, 203, 196, 189, 182, 285 + 7};
        for (int k = 0; k < wants.length; k++) {
            x.sail(0, 1);
            Check.due("after watch " + k, x.pay(0, 0, 100, 17, 10), wants[k]);
        }
        Check.due("below 0", x.pay(0, 0, 0, 1000, 0), -4000);
        Desk y = new Desk();
        y.begin(0, 0, 0, 1);
        y.place(0, 2900);
        for (int k = 0; k < 5; k++) {
            y.sail(0, 400);
        }
        Check.due("the most", y.pay(0, 0, 100000, 1000, 1000), 52000000);
    }

    private static void asAWhole() {
        Desk x = new Desk();
        Check.insurer(x, 0, "crew 2;");
        Check.steady(x, 0, 10);
        x.begin(0, 0, 0, 1);
        x.place(0, 200);
        x.sail(0, 1);
        Check.due("on its way", x.pay(0, 1, 500, 3, 0), -3);
        x.sail(0, 1);
        Check.due("arrived", x.pay(0, 1, 500, 3, 1), 496);
        Check.skipper(x, 0, "when day below 1 do turn;");
        x.begin(0, 0, 0, 1);
        x.place(0, 200);
        x.sail(0, 1);
        Check.due("arrived, turned", x.passage(0, 0) * 10 + x.passage(0, 4), 11);
        Check.due("nothing for that", x.pay(0, 1, 500, 3, 1), -2);
        Check.due("a day for that", x.pay(0, 0, 500, 3, 1), 498);
        Check.skipper(x, 0, "when day below 1 do end;");
        x.begin(0, 0, 0, 1);
        x.place(0, 200);
        x.sail(0, 1);
        Check.due("given up", x.pay(0, 1, 500, 3, 1), 0);
        Check.due("no day begun", x.pay(0, 0, 500, 3, 1), 0);
    }
}
