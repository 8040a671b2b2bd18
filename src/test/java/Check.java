import java.nio.charset.StandardCharsets;

/** What the tests share: counting wrong answers, and feeding a text to the tape. */
final class Check {
    private static int wrong = 0;

    private Check() {
    }

    static void due(String call, long got, long want) {
        if (got != want) {
            wrong++;
            System.out.println(call + " answered " + got + ", due is " + want);
        }
    }

    static void finish() {
        if (wrong != 0) {
            System.out.println(wrong + " answers are not as due");
            System.exit(1);
        }
    }

    /** The tape holds just this text. */
    static void tape(BoatsHome x, String text) {
        byte[] bytes = text.getBytes(StandardCharsets.ISO_8859_1);
        x.end(0);
        for (int at = 0; at < bytes.length; at += 20) {
            x.feed(four(bytes, at), four(bytes, at + 4), four(bytes, at + 8), four(bytes, at + 12), four(bytes, at + 16));
        }
        due("end of '" + text + "'", x.end(bytes.length), bytes.length);
    }

    static int skipper(BoatsHome x, int b, String text) {
        tape(x, text);
        return x.skipper(b);
    }

    static int insurer(BoatsHome x, int b, String text) {
        tape(x, text);
        return x.insurer(b);
    }

    /** The same speed at every angle and force. */
    static void steady(BoatsHome x, int b, int tenths) {
        for (int angle = 0; angle <= 4; angle++) {
            for (int band = 0; band <= 4; band++) {
                x.speed(b, angle, band, tenths);
            }
        }
    }

    /** Of a boat's passage, what from 0 on. */
    static void passage(String when, BoatsHome x, int b, int... wants) {
        for (int what = 0; what < wants.length; what++) {
            due(when + ": passage(" + b + ", " + what + ")", x.passage(b, what), wants[what]);
        }
    }

    private static int four(byte[] bytes, int at) {
        int sum = 0;
        for (int k = at; k < at + 4; k++) {
            sum = sum << 8 | (k < bytes.length ? bytes[k] & 255 : ' ');
        }
        return sum;
    }
}
