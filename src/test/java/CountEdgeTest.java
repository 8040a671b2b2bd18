/** Each sentence on a bound of count (promise 24), and of what a call that is refused leaves as it was. */
public final class CountEdgeTest {
    private static final int LEAST = Integer.MIN_VALUE;
    private static final int MOST = Integer.MAX_VALUE;
    private static final String[] TOLD = {"port 0 404", "port 1 808", "port 9 2919", "steady 0 10", "water 0 50", "lasts 0 1 2", "wind 0 0 2 5",
        "tape when day above 5 do end;", "skipper 0", "tape crew 2; box 1 1 2 2 from 3 to 4;", "insurer 0", "begin 0 0 7 3", "place 0 808",
        "place 0 2919", "sail 0 5", "begin 1 1 0 1", "8* place 1 500", "begin 2 9 499 9", "place 2 2919", "sail 2 4", "begin 3 0 0 1",
        "tape when force above 4 do end; when day below 9 do end;", "skipper 3", "place 3 0", "sail 3 1", "begin 4 0 0 1",
        "7* deliver 0 1 5 0 40", "crew 0 0 0", "crew 3 1 9", "flight 0 1 50", "plan", "tape when", "skipper 5", "39* feed 7 7 7 7 7", "end 780",
        "feed 1 2 3 4 5", "end 781"};

    public static void main(String[] args) {
        its512thCall();
        watchesWorked();
        deliveriesAndCrews();
        bytesOfTheTape();
        rulesAndBoxes();
        placesOfPorts();
        noneForOthers();
        refusedCalls();
        refusedBehindAFullLog();
        askingChangesNothing();
        Check.finish();
    }

    private static void its512thCall() {
        Check.run("An object is used for at most 512 calls", "begin 0 0 0 1 = 1", "place 0 900 = 1", "508* sail 0 1 = 1", "count 0 = 508", "passage 0 1 = 508");
        Desk x = Check.run("An object is used for at most 512 calls, plans of all that can be told", "crew 0 0 0 = 1", "crew 1 1 0 = 1", "crew 2 0 3 = 1",
            "crew 3 1 3 = 1", "7* deliver 0 1 4 0 30");
        while (x.callsLeft() > 2) {
            Check.run(x, "flight 0 1 " + x.callsLeft(), "plan = 7");
        }
        Check.run(x, "planned 10 = 0");
    }

    private static void watchesWorked() {
        Check.run("Promise 24: WATCHES worked in all", "count 0 = 0", "begin 0 0 0 1 = 1", "place 0 100 = 1", "count 0 = 0", "sail 0 3 = 3", "count 0 = 3",
            "begin 1 0 0 1 = 1", "place 1 0 = 1", "sail 1 9 = 1", "count 0 = 4", "begin 1 0 0 1 = 1", "count 0 = 4");
    }

    private static void deliveriesAndCrews() {
        Check.run("Promise 24: DELIVERIES, CREWS told", "count 1 = 0", "count 2 = 0", "deliver 0 1 1 0 0 = 0", "count 1 = 1", "count 2 = 0",
            "crew 3 0 0 = 1", "count 2 = 1", "crew 3 0 0 = 1", "count 2 = 1", "crew 0 0 0 = 1", "crew 1 0 0 = 1", "crew 2 0 0 = 1", "count 2 = 4",
            "crew 4 0 0 = -2", "count 2 = 4", "count 1 = 1");
    }

    private static void bytesOfTheTape() {
        Check.run("Promise 24: bytes of THE TAPE", "count 3 = 0", "feed 0 0 0 0 0 = 20", "count 3 = 20", "end 3 = 3", "count 3 = 3", "end 0 = 0",
            "count 3 = 0", "40* feed 0 0 0 0 0", "count 3 = 800");
    }

    private static void rulesAndBoxes() {
        for (int b = 0; b < 6; b++) {
            Desk x = Check.run("Promise 24: 10 + b: rules, 20 + b: boxes of BOAT b", "tape when day above 1 do end; when day above 1 do end;",
                "skipper " + b + " = 2", "tape box 1 1 1 1 from 1 to 1; crew 3; box 1 1 1 1 from 1 to 1; box 1 1 1 1 from 1 to 1;",
                "insurer " + b + " = 4");
            for (int other = 0; other < 6; other++) {
                Check.run(x, "count " + (10 + other) + " = " + (other == b ? 2 : 0), "count " + (20 + other) + " = " + (other == b ? 3 : 0));
            }
        }
    }

    private static void placesOfPorts() {
        Desk x = new Desk();
        Check.sentence("Promise 24: 30 + p: the place of PORT p");
        for (int p = 0; p < 10; p++) {
            Check.run(x, "count " + (30 + p) + " = 0", "port " + p + " " + (301 * p + 1) + " = 0");
        }
        for (int p = 0; p < 10; p++) {
            Check.run(x, "count " + (30 + p) + " = " + (301 * p + 1));
        }
    }

    private static void noneForOthers() {
        Desk x = Check.run("Promise 24: NONE for others", TOLD);
        for (int what : new int[] {LEAST, -10, -1, 4, 5, 9, 16, 17, 19, 26, 27, 29, 40, 41, 100, MOST}) {
            Check.run(x, "count " + what + " = -1");
        }
    }

    /** All that can be asked without changing anything: some hundred calls. */
    private static int[] all(Desk x) {
        int[] got = new int[150];
        int n = 0;
        for (int b = 0; b < 6; b++) {
            for (int what = 0; what <= 10; what++) {
                got[n++] = x.passage(b, what);
            }
            for (int what : new int[] {0, 1, 10, 11, 12, 13}) {
                got[n++] = x.boat(b, what);
            }
            got[n++] = x.count(10 + b);
            got[n++] = x.count(20 + b);
        }
        for (int what : new int[] {0, 1, 2, 3, 30, 31, 39}) {
            got[n++] = x.count(what);
        }
        for (int what : new int[] {0, 10, 11, 12, 16, 20, 21, 22, 26}) {
            got[n++] = x.planned(what);
        }
        got[n++] = x.fault(0);
        got[n++] = x.fault(1);
        got[n++] = x.covers(0, 101, 3, 9, 9);
        got[n++] = x.covers(0, 0, 3, 1, 9);
        return got;
    }

    private static void same(String words, String... calls) {
        Desk x = Check.run(words, TOLD);
        int[] before = all(x);
        Check.run(x, calls);
        int[] after = all(x);
        for (int k = 0; k < before.length; k++) {
            Check.due("what was asked " + k + " calls in", after[k], before[k]);
        }
    }

    private static void refusedCalls() {
        String refused = "A call that is refused leaves all as it was: ";
        same(refused + "feed", "feed 1 1 1 1 1 = -3", "feed 0 0 0 0 0 = -3");
        same(refused + "end", "end -1 = -1", "end 782 = -1", "end 2147483647 = -1");
        same(refused + "wind, port", "wind 24 0 0 0 = -2", "wind 0 12 0 0 = -2", "wind 0 0 8 0 = -2", "wind 0 0 0 10 = -2", "wind 0 0 2 5 = 25",
            "port 10 0 = -2", "port 0 20 = -2", "port 0 3000 = -2", "port -1 0 = -2");
        same(refused + "speed, water, lasts", "speed 6 0 0 0 = -2", "speed 0 5 0 0 = -2", "speed 0 0 5 0 = -2", "speed 0 0 0 41 = -2",
            "speed 0 0 0 10 = 10", "water 0 10001 = -2", "water 6 1 = -2", "lasts 0 4 1 = -2", "lasts 0 1 -1 = -2", "lasts 6 0 1 = -2");
        same(refused + "skipper, insurer", "skipper 6 = -2", "skipper -1 = -2", "insurer 6 = -2", "insurer -1 = -2");
        same(refused + "begin", "begin 0 0 0 1 = -4", "begin 1 0 0 1 = -4", "begin 4 0 0 1 = -4", "begin 2 10 0 1 = -2", "begin 3 0 500 1 = -2",
            "begin 5 0 0 0 = -2", "begin 5 0 0 10 = -2", "begin 6 0 0 1 = -2");
        same(refused + "place", "place 0 0 = -4", "place 1 0 = -3", "place 2 0 = -4", "place 3 0 = -4", "place 5 0 = -4", "place 4 20 = -2",
            "place 4 -1 = -2", "place 6 0 = -2");
        same(refused + "sail", "sail 2 1 = -4", "sail 3 1 = -4", "sail 4 1 = -4", "sail 5 1 = -4", "sail 0 0 = -2", "sail 0 401 = -2", "sail 6 1 = -2");
        same(refused + "deliver, crew, flight", "deliver 0 1 1 0 0 = -3", "deliver 0 1 201 0 0 = -2", "crew 4 0 0 = -2", "crew 0 10 0 = -2",
            "crew 0 0 1000 = -2", "flight 0 0 5 = -2", "flight 0 10 5 = -2", "flight 0 1 10001 = -2", "flight 0 1 -2 = -2");
    }

    private static void refusedBehindAFullLog() {
        Desk x = Check.run("A call that is refused leaves all as it was: sail beyond the LOG", TOLD);
        Check.run(x, "4* sail 1 400 = 400", "sail 1 400 = 394", "count 0 = 2000");
        int[] before = all(x);
        Check.run(x, "sail 1 1 = -3", "sail 0 400 = -3", "sail 4 1 = -4");
        int[] after = all(x);
        for (int k = 0; k < before.length; k++) {
            Check.due("what was asked " + k + " calls in", after[k], before[k]);
        }
    }

    private static void askingChangesNothing() {
        same("Asking changes nothing", "covers 0 101 3 9 9 = 0", "passage 0 11 = -9", "boat 0 14 = -9", "pay 0 0 100 1 1", "pay 6 0 1 1 1 = -2000000000",
            "plan", "planned 99 = -9", "count 99 = -1", "fault 2 = -1");
    }
}
