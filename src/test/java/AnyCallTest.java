import java.util.Random;

/** Any calls with any numbers: none throws, the same calls answer alike, and what is asked lies in its bounds. */
public final class AnyCallTest {
    private static final int[] ODD = {Integer.MIN_VALUE, Integer.MAX_VALUE, -2, -1, 0, 1, 9, 10, 20, 100, 359, 500, 800, 1000, 10001};
    private static final String[] WORDS = {"when ", "force ", "water ", "day ", "broken ", "above ", "below ", "do ", "wait", "turn",
        "end", ";", "box ", "crew ", "from ", "to ", "0 ", "1 ", "5 ", "9 ", "29 ", "300 ", "12345 ", "\n", "?", "\u0080"};

    public static void main(String[] args) {
        for (int seed = 0; seed < 400; seed++) {
            long first = run(seed);
            if (seed % 20 == 0) {
                Check.due("run " + seed + " again", run(seed), first);
            }
        }
        Check.finish();
    }

    private static long run(int seed) {
        Random random = new Random(seed);
        BoatsHome x = new BoatsHome();
        long sum = 0;
        for (int k = 0; k < 512; k++) {
            sum = 31 * sum + call(x, random);
        }
        inBounds(x);
        return sum;
    }

    private static int call(BoatsHome x, Random random) {
        Arguments n = new Arguments(random);
        switch (random.nextInt(24)) {
            case 0: return x.feed(n.any(), n.any(), n.any(), n.any(), n.any());
            case 1: return x.end(n.upTo(800));
            case 2: return x.wind(n.upTo(23), n.upTo(11), n.upTo(7), n.upTo(9));
            case 3: return x.port(n.upTo(9), n.place());
            case 4: return x.speed(n.upTo(5), n.upTo(4), n.upTo(4), n.upTo(40));
            case 5: return x.water(n.upTo(5), n.upTo(500));
            case 6: return x.lasts(n.upTo(5), n.upTo(3), n.upTo(50));
            case 7: return text(x, random, true, n.upTo(5));
            case 8: return text(x, random, false, n.upTo(5));
            case 9: return x.fault(n.upTo(2));
            case 10: return x.covers(n.upTo(5), n.place(), n.upTo(999), n.upTo(9), n.upTo(9));
            case 11: return x.begin(n.upTo(5), n.upTo(9), n.upTo(499), n.upTo(9));
            case 12: return x.place(n.upTo(5), n.place());
            case 13: return x.sail(n.upTo(5), n.upTo(30));
            case 14: return x.passage(n.upTo(5), n.upTo(11));
            case 15: return x.boat(n.upTo(5), n.upTo(14));
            case 16: return x.pay(n.upTo(5), n.upTo(1), n.upTo(100000), n.upTo(1000), n.upTo(1000));
            case 17: return x.deliver(n.upTo(9), n.upTo(9), n.upTo(200), n.upTo(500), n.upTo(999));
            case 18: return x.crew(n.upTo(3), n.upTo(9), n.upTo(500));
            case 19: return x.flight(n.upTo(9), n.upTo(9), n.upTo(10000));
            case 20: return x.plan();
            case 21: return x.planned(n.upTo(27));
            case 22: return x.count(n.upTo(40));
            default: return x.sail(n.upTo(5), 1 + random.nextInt(400));
        }
    }

    private static int text(BoatsHome x, Random random, boolean rules, int boat) {
        StringBuilder text = new StringBuilder();
        int pieces = random.nextInt(6);
        for (int k = 0; k < pieces; k++) {
            text.append(rules ? "when water below " + random.nextInt(99) + " do turn;" : "box 0 0 " + random.nextInt(30) + " 9 from 3 to 2;");
        }
        if (random.nextInt(2) == 0) {
            for (int k = 0; k < 6; k++) {
                text.append(WORDS[random.nextInt(WORDS.length)]);
            }
        }
        Check.tape(x, text.toString());
        return rules ? x.skipper(boat) : x.insurer(boat);
    }

    private static void inBounds(BoatsHome x) {
        Check.due("log", x.count(0) <= 2000 ? 1 : 0, 1);
        for (int b = 0; b < 6; b++) {
            if (x.passage(b, 0) != -9) {
                int at = x.passage(b, 2);
                Check.due("place", at >= 0 && at / 100 < 30 && at % 100 < 20 ? 1 : 0, 1);
                Check.due("gone", x.passage(b, 3) >= 0 && x.passage(b, 3) <= 9 ? 1 : 0, 1);
                Check.due("arrived if none is left", x.passage(b, 0) == 1 && x.passage(b, 9) != 0 ? 1 : 0, 0);
            }
        }
    }

    private static final class Arguments {
        private final Random random;

        Arguments(Random random) {
            this.random = random;
        }

        int any() {
            return random.nextInt();
        }

        int upTo(int most) {
            return random.nextInt(25) == 0 ? ODD[random.nextInt(ODD.length)] : random.nextInt(most + 1);
        }

        int place() {
            return random.nextInt(25) == 0 ? ODD[random.nextInt(ODD.length)] : 100 * random.nextInt(30) + random.nextInt(20);
        }
    }
}
