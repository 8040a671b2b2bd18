import java.nio.charset.StandardCharsets;
import java.util.Arrays;
import java.util.function.Supplier;

/** What the tests share: counting wrong answers, feeding a text to the tape, and runs of calls told as texts. */
final class Check {
    private static int wrong = 0;
    private static String sentence = "";

    private Check() {
    }

    static void due(String call, long got, long want) {
        if (got != want) {
            wrong++;
            System.out.println(sentence + call + " answered " + got + ", due is " + want);
        }
    }

    static void finish() {
        if (wrong != 0) {
            System.out.println(wrong + " answers are not as due");
            System.exit(1);
        }
    }

    /** The document's sentence that the calls from here on hold to. */
    static void sentence(String words) {
        sentence = words + ": ";
    }

    /** A sentence's run of calls on a new object. */
    static Desk run(String words, String... calls) {
        sentence(words);
        return run(new Desk(), calls);
    }

    /**
     * Each call is its name, its numbers, = and the answer that is due (any, without these two); n* ahead of it
     * makes it n times. Beside the calls: "tape" and a text makes THE TAPE this text, "steady b n" gives a boat one
     * speed at every angle and force, "trip b = .." asks for a passage's whats 0, 1, 2 and so on.
     */
    static Desk run(Desk x, String... calls) {
        for (String call : calls) {
            if (call.startsWith("tape ")) {
                tape(x, call.substring(5));
            } else if (call.startsWith("steady ")) {
                int[] n = numbers(call);
                steady(x, n[0], n[1]);
            } else if (call.startsWith("trip ")) {
                String[] sides = call.split(" = ");
                passage(sides[0], x, numbers(sides[0])[0], numbers("= " + sides[1]));
            } else {
                String[] counted = call.split("\\* ");
                for (int k = counted.length == 1 ? 1 : Integer.parseInt(counted[0]); k > 0; k--) {
                    one(x, counted[counted.length - 1]);
                }
            }
        }
        return x;
    }

    /** The numbers behind a text's first word. */
    private static int[] numbers(String words) {
        return Arrays.stream(words.split(" ")).skip(1).mapToInt(Integer::parseInt).toArray();
    }

    private static void one(Desk x, String call) {
        String[] sides = call.split(" = ");
        String[] words = sides[0].split(" ");
        int got = x.call(words[0], numbers(sides[0]));
        if (sides.length > 1) {
            due(sides[0], got, Integer.parseInt(sides[1]));
        }
    }

    /** Each number of a call is taken at its bounds (least, most of each), and refused one beyond and far beyond. */
    static void bounds(Supplier<Desk> desk, String call, int refused, int[] good, int... bounds) {
        for (int k = 0; k < good.length; k++) {
            for (int inside : new int[] {bounds[2 * k], bounds[2 * k + 1]}) {
                int[] n = with(good, k, inside);
                due(call + Arrays.toString(n) + " is refused", desk.get().call(call, n) == refused ? 1 : 0, 0);
            }
            for (int outside : new int[] {bounds[2 * k] - 1, bounds[2 * k + 1] + 1, Integer.MIN_VALUE, Integer.MAX_VALUE}) {
                int[] n = with(good, k, outside);
                due(call + Arrays.toString(n), desk.get().call(call, n), refused);
            }
        }
    }

    /** One number of a call takes each place that is one, at the sea's corners, and refuses what is none. */
    static void places(Supplier<Desk> desk, String call, int refused, int[] good, int k) {
        for (int place : new int[] {0, 19, 100, 119, 2900, 2919}) {
            int[] n = with(good, k, place);
            due(call + Arrays.toString(n) + " is refused", desk.get().call(call, n) == refused ? 1 : 0, 0);
        }
        for (int place : new int[] {-1, -81, -100, 20, 99, 120, 2920, 2999, 3000, 3019, Integer.MIN_VALUE, Integer.MAX_VALUE}) {
            int[] n = with(good, k, place);
            due(call + Arrays.toString(n), desk.get().call(call, n), refused);
        }
    }

    private static int[] with(int[] good, int k, int number) {
        int[] n = good.clone();
        n[k] = number;
        return n;
    }

    /** The tape holds just this text. */
    static void tape(Desk x, String text) {
        byte[] bytes = text.getBytes(StandardCharsets.ISO_8859_1);
        x.end(0);
        for (int at = 0; at < bytes.length; at += 20) {
            x.feed(four(bytes, at), four(bytes, at + 4), four(bytes, at + 8), four(bytes, at + 12), four(bytes, at + 16));
        }
        due("end of '" + text + "'", x.end(bytes.length), bytes.length);
    }

    static int skipper(Desk x, int b, String text) {
        tape(x, text);
        return x.skipper(b);
    }

    static int insurer(Desk x, int b, String text) {
        tape(x, text);
        return x.insurer(b);
    }

    /** The same speed at every angle and force. */
    static void steady(Desk x, int b, int tenths) {
        for (int angle = 0; angle <= 4; angle++) {
            for (int band = 0; band <= 4; band++) {
                x.speed(b, angle, band, tenths);
            }
        }
    }

    /** Of a boat's passage, what from 0 on. */
    static void passage(String when, Desk x, int b, int... wants) {
        for (int what = 0; what < wants.length; what++) {
            due(when + ": passage(" + b + ", " + what + ")", x.passage(b, what), wants[what]);
        }
    }

    private static int four(byte[] bytes, int at) {
        int sum = 0;
        for (int k = at; k < at + 4; k++) {
            sum = sum << 8 | (k < bytes.length ? bytes[k] & 255 : ' ');
        }
        return sum;
    }
}
