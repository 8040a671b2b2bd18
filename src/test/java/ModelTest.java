import java.nio.charset.StandardCharsets;
import java.util.ArrayList;
import java.util.Arrays;
import java.util.List;
import java.util.Random;

/** Promises 1 to 24 together: runs of calls of all kinds, each answer held against the model's. */
public final class ModelTest {
    private static final int[] ODD = {Integer.MIN_VALUE, Integer.MAX_VALUE, -100, -2, -1, 0, 1, 4, 5, 6, 7, 8, 9, 10, 11, 12, 13, 14,
        19, 20, 23, 24, 29, 30, 40, 41, 99, 100, 200, 201, 359, 360, 400, 401, 499, 500, 799, 800, 801, 999, 1000, 1001, 2919, 2920,
        3000, 10000, 10001, 100000, 100001};
    private static final String[] PIECES = {"when ", "force ", "water ", "day ", "broken ", "above ", "below ", "do ", "wait", "turn",
        "end", ";", "box ", "crew ", "from ", "to ", "0 ", "1 ", "5 ", "9 ", "10 ", "19 ", "20 ", "29 ", "30 ", "359 ", "360 ", "9999 ",
        "10000 ", "00009 ", "\n", " ", "?", "\u0080", "\t", "W", "\0"};

    private final Random random;
    private final Desk desk = new Desk();
    private final Model model = new Model();
    private final List<String> run = new ArrayList<>();
    private boolean wrong = false;

    private ModelTest(int seed) {
        random = new Random(seed);
    }

    public static void main(String[] args) {
        for (int seed = 0; seed < 1500; seed++) {
            ModelTest test = new ModelTest(seed);
            switch (seed % 5) {
                case 0: test.anyCalls(); break;
                case 1: test.texts(); break;
                case 2: test.plans(); break;
                default: test.passages(); break;
            }
        }
        Check.finish();
    }

    private int call(String name, int... n) {
        int got = desk.call(name, n);
        int want = model.call(name, n);
        run.add(name + Arrays.toString(n) + " = " + got);
        if (got != want && !wrong) {
            wrong = true;
            run.forEach(System.out::println);
            Check.due("the last of these", got, want);
        }
        return got;
    }

    private int upTo(int most) {
        return random.nextInt(most + 1);
    }

    /** Mostly a number of 0 .. most, now and then an odd one. */
    private int about(int most) {
        return random.nextInt(20) == 0 ? ODD[random.nextInt(ODD.length)] : upTo(most);
    }

    private int anyPlace() {
        return random.nextInt(20) == 0 ? ODD[random.nextInt(ODD.length)] : 100 * upTo(29) + upTo(19);
    }

    private int nearPlace() {
        return 100 * (3 + upTo(4)) + 3 + upTo(4);
    }

    private void feedText(String text) {
        byte[] bytes = text.getBytes(StandardCharsets.ISO_8859_1);
        call("end", 0);
        for (int at = 0; at < bytes.length; at += 20) {
            int[] five = new int[5];
            for (int k = 0; k < 20; k++) {
                five[k / 4] = five[k / 4] << 8 | (at + k < bytes.length ? bytes[at + k] & 255 : upTo(255));
            }
            call("feed", five);
        }
        call("end", bytes.length);
    }

    private void anyCalls() {
        while (desk.callsLeft() > 60) {
            anyCall();
        }
        askAll();
    }

    private void anyCall() {
        switch (random.nextInt(24)) {
            case 0: call("feed", random.nextInt(), random.nextInt(), random.nextInt(), random.nextInt(), random.nextInt()); break;
            case 1: call("end", about(100)); break;
            case 2: call("wind", about(23), about(11), about(7), about(9)); break;
            case 3: call("port", about(9), anyPlace()); break;
            case 4: call("speed", about(5), about(4), about(4), about(40)); break;
            case 5: call("water", about(5), about(500)); break;
            case 6: call("lasts", about(5), about(3), about(50)); break;
            case 7: call("skipper", about(5)); break;
            case 8: call("insurer", about(5)); break;
            case 9: call("fault", about(2)); break;
            case 10: call("covers", about(5), anyPlace(), about(999), about(9), about(9)); break;
            case 11: call("begin", about(5), about(9), about(499), about(9)); break;
            case 12: case 13: call("place", about(5), anyPlace()); break;
            case 14: call("sail", about(5), about(30)); break;
            case 15: call("passage", about(5), about(11)); break;
            case 16: call("boat", about(5), about(14)); break;
            case 17: call("pay", about(5), about(1), about(100000), about(1000), about(1000)); break;
            case 18: call("deliver", about(9), about(9), about(200), about(500), about(999)); break;
            case 19: call("crew", about(3), about(9), about(500)); break;
            case 20: call("flight", about(9), about(9), about(10000)); break;
            case 21: call("plan"); break;
            case 22: call("planned", about(27)); break;
            default: call("count", about(40)); break;
        }
    }

    /** Some sixty calls at most. */
    private void askAll() {
        int b = upTo(5);
        for (int what = -1; what <= 11; what++) {
            call("passage", b, what);
        }
        for (int what : new int[] {-1, 0, 1, 2, 9, 10, 11, 12, 13, 14}) {
            call("boat", b, what);
        }
        for (int what : new int[] {-1, 0, 1, 2, 3, 4, 9, 10, 15, 16, 20, 25, 26, 30, 39, 40}) {
            call("count", what);
        }
        for (int what : new int[] {-1, 0, 1, 9, 10, 16, 17, 20, 26, 27}) {
            call("planned", what);
        }
        call("fault", 0);
        call("fault", 1);
    }

    private String rules() {
        String[] seen = {"force", "water", "day", "broken"};
        String[] acts = {"wait", "turn", "end", "wait"};
        int[] bounds = {4 + upTo(5), upTo(30), 1 + upTo(6), upTo(3)};
        StringBuilder text = new StringBuilder();
        int many = random.nextInt(10) == 0 ? 10 + upTo(3) : upTo(3);
        for (int k = 0; k < many; k++) {
            int what = upTo(3);
            boolean above = what != 1 && random.nextInt(4) > 0;
            text.append("when ").append(seen[what]).append(above ? " above " : " below ").append(bounds[what]).append(" do ")
                .append(acts[upTo(3)]).append(random.nextBoolean() ? ";" : " ;\n");
        }
        return text.toString();
    }

    private String lines() {
        StringBuilder text = new StringBuilder();
        int many = random.nextInt(10) == 0 ? 10 + upTo(4) : upTo(4);
        for (int k = 0; k < many; k++) {
            text.append("box ").append(upTo(9)).append(' ').append(upTo(9)).append(' ').append(upTo(9)).append(' ').append(upTo(9))
                .append(" from ").append(upTo(359)).append(" to ").append(upTo(359)).append(';');
        }
        String crew = "crew " + upTo(3) + ";";
        String force = "force " + (5 + upTo(4)) + "; ";
        text.append(random.nextBoolean() ? crew : "").append(random.nextBoolean() ? force : "");
        text.append(random.nextInt(8) == 0 ? crew : "").append(random.nextInt(8) == 0 ? force : "");
        return text.toString();
    }

    /** A good text, or one with a byte changed, a piece put in or its end cut off. */
    private String spoilt(String good) {
        StringBuilder text = new StringBuilder(good);
        int at = upTo(text.length());
        switch (random.nextInt(5)) {
            case 0: text.insert(at, PIECES[random.nextInt(PIECES.length)]); break;
            case 1: text.setLength(at); break;
            case 2: text.delete(at, Math.min(text.length(), at + 1 + upTo(4))); break;
            case 3: text.insert(at, (char) upTo(255)); break;
            default: break;
        }
        text.setLength(Math.min(text.length(), 800));
        return text.toString();
    }

    private void texts() {
        while (desk.callsLeft() > 130) {
            boolean skipper = random.nextBoolean();
            StringBuilder text = new StringBuilder(spoilt(skipper ? rules() : lines()));
            for (int k = random.nextInt(3) == 0 ? 6 : 0; k > 0; k--) {
                text.append(PIECES[random.nextInt(PIECES.length)]);
            }
            text.setLength(Math.min(text.length(), 800));
            feedText(text.toString());
            int b = upTo(2);
            call(random.nextInt(9) > 0 == skipper ? "skipper" : "insurer", b);
            call("fault", 0);
            call("fault", 1);
            call("count", 10 + b);
            call("count", 20 + b);
            call("count", 3);
            call("covers", b, 100 * upTo(10) + upTo(10), upTo(999), upTo(9), upTo(9));
        }
        askAll();
    }

    private void plans() {
        int ports = 1 + upTo(3);
        while (desk.callsLeft() > 80) {
            switch (random.nextInt(8)) {
                case 0: case 1: call("crew", upTo(3), upTo(ports), upTo(20)); break;
                case 2: case 3: call("flight", upTo(ports), upTo(ports), random.nextInt(4) == 0 ? -1 : upTo(3) * 5); break;
                case 4: deliverSome(ports); break;
                default: askPlan(); break;
            }
        }
        askAll();
    }

    /** A seventh one seldom, since the model tries all ways. */
    private void deliverSome(int ports) {
        int first = upTo(40);
        if (call("count", 1) < 5 || random.nextInt(30) == 0) {
            call("deliver", upTo(ports), upTo(ports), 1 + upTo(10), first, first + upTo(30) - 1);
        }
    }

    private void askPlan() {
        if (random.nextInt(3) == 0) {
            call("plan");
        }
        call("planned", upTo(27));
    }

    private void passages() {
        for (int p = 0; p < 3; p++) {
            call("port", p, nearPlace());
        }
        for (int k = 0; k < 60; k++) {
            call("wind", upTo(3) % 2 + upTo(1) * 6, upTo(3), upTo(7), upTo(9));
            call("speed", upTo(1), upTo(4), upTo(4), upTo(40));
        }
        while (desk.callsLeft() > 90) {
            int b = upTo(1);
            sailSome(b);
            changeSome(b);
            call("passage", b, upTo(10));
            call("passage", b, upTo(10));
            call("boat", b, upTo(13));
            call("pay", b, upTo(1), upTo(100000), upTo(1000), upTo(1000));
        }
        askAll();
    }

    private void sailSome(int b) {
        if (random.nextInt(3) == 0 && call("begin", b, upTo(2), upTo(3) * 30 + 25 + upTo(5), 1 + upTo(4)) == 1) {
            for (int k = 1 + (random.nextInt(6) == 0 ? 8 : upTo(3)); k > 0; k--) {
                call("place", b, nearPlace());
            }
        }
        call("sail", b, random.nextInt(9) == 0 ? 400 : 1 + upTo(7));
    }

    private void changeSome(int b) {
        switch (random.nextInt(9)) {
            case 0: call("water", b, upTo(60)); break;
            case 1: call("lasts", b, upTo(3), upTo(20)); break;
            case 2: call("port", upTo(2), nearPlace()); break;
            case 3: call("wind", upTo(1) + upTo(1) * 6, upTo(3), upTo(7), upTo(9)); break;
            case 4: feedText(rules()); call("skipper", b); break;
            case 5: feedText(lines()); call("insurer", b); break;
            default: break;
        }
    }
}
