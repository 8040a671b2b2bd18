import java.util.ArrayList;
import java.util.List;

/** A text of the model: its tokens in a list, and each rule or line held against the patterns that it may go on as. */
final class ModelText {
    private static final String[] SKIPPER = {"when S A 0-9999 do W ;"};
    private static final String[] INSURER = {"box 0-29 0-19 0-29 0-19 from 0-359 to 0-359 ;", "crew 0-9 ;", "force 0-9 ;"};

    final List<String[]> done = new ArrayList<>();
    int kind = 0;
    int place = -1;
    private final List<String> tokens = new ArrayList<>();
    private final List<Integer> places = new ArrayList<>();

    ModelText(List<Integer> bytes, boolean rules) {
        StringBuilder text = new StringBuilder();
        for (int one : bytes) {
            text.append((char) one);
        }
        cut(text.toString());
        String[] patterns = rules ? SKIPPER : INSURER;
        int at = 0;
        while (kind == 0 && at < tokens.size() - 1) {
            at = readOne(patterns, at);
        }
    }

    private void cut(String text) {
        int at = 0;
        while (at < text.length()) {
            int until = at + 1;
            String like = Character.toString(text.charAt(at)).matches("[a-z]") ? "[a-z]" : "[0-9]";
            if (Character.toString(text.charAt(at)).matches("[a-z0-9]")) {
                while (until < text.length() && text.substring(until, until + 1).matches(like)) {
                    until++;
                }
            }
            if (text.charAt(at) != ' ' && text.charAt(at) != '\n') {
                tokens.add(text.substring(at, until));
                places.add(at);
            }
            at = until;
        }
        tokens.add("");
        places.add(text.length());
    }

    /** Reads a rule or line from a token on, and tells where the next one would begin. */
    private int readOne(String[] patterns, int at) {
        String[] pattern = {};
        for (String one : patterns) {
            if (one.split(" ")[0].equals(tokens.get(at))) {
                pattern = one.split(" ");
            }
        }
        if (pattern.length == 0) {
            return refuse(1, at);
        }
        int alike = 0;
        for (String[] line : done) {
            alike += line[0].equals(pattern[0]) ? 1 : 0;
        }
        boolean many = pattern[0].equals("when") || pattern[0].equals("box");
        if (many ? alike == 12 : alike == 1) {
            return refuse(many ? 4 : 3, at);
        }
        for (int k = 1; k < pattern.length; k++) {
            int wrong = wrong(pattern[k], tokens.get(at + k));
            if (wrong != 0) {
                return refuse(wrong, at + k);
            }
        }
        done.add(tokens.subList(at, at + pattern.length).toArray(new String[0]));
        return at + pattern.length;
    }

    private static int wrong(String wanted, String token) {
        switch (wanted) {
            case "S":
                return token.matches("force|water|day|broken") ? 0 : 1;
            case "A":
                return token.matches("above|below") ? 0 : 1;
            case "W":
                return token.matches("wait|turn|end") ? 0 : 1;
            default:
                break;
        }
        if (!wanted.contains("-")) {
            return wanted.equals(token) ? 0 : 1;
        }
        if (!token.matches("[0-9]{1,4}")) {
            return 1;
        }
        return Integer.parseInt(token) > Integer.parseInt(wanted.split("-")[1]) ? 2 : 0;
    }

    private int refuse(int fault, int at) {
        kind = fault;
        place = places.get(at);
        return tokens.size();
    }
}
