import java.io.IOException;
import java.lang.reflect.Method;
import java.lang.reflect.Modifier;
import java.nio.file.DirectoryStream;
import java.nio.file.Files;
import java.nio.file.Path;
import java.util.Arrays;
import java.util.Set;
import java.util.TreeSet;
import java.util.regex.Matcher;
import java.util.regex.Pattern;

/** README.md: each call that it shows answers as it says; it shows every call, and names every test and no other. */
public final class ReadmeTest {
    private static final Pattern CALL = Pattern.compile("desk\\.(\\w+)\\(([^)]*)\\); *// (-?\\d+): (.+)");
    private static final Pattern FED = Pattern.compile("\"(.*)\"");
    private static final Pattern TEST = Pattern.compile("\\b(\\w+Test)\\b");

    public static void main(String[] args) throws IOException {
        Check.sentence("README.md");
        String page = Files.readString(Path.of("README.md"));
        everyCallIsShown(callsOf(page));
        everyTestIsNamed(page);
        Check.due("it names .ci/run", page.contains("    .ci/run\n") ? 1 : 0, 1);
        Check.finish();
    }

    /** Makes the calls of the page's Java blocks, which are one run; the names of these calls. */
    private static Set<String> callsOf(String page) {
        Set<String> names = new TreeSet<>();
        Desk desk = null;
        boolean java = false;
        for (String line : page.split("\n")) {
            if (line.startsWith("```")) {
                java = line.equals("```java");
            } else if (java && line.equals("BoatsHome desk = new BoatsHome();")) {
                desk = new Desk();
            } else if (java) {
                Matcher call = CALL.matcher(line);
                boolean fits = desk != null && call.matches();
                Check.due("'" + line + "' is a call with its answer", fits ? 1 : 0, 1);
                if (fits) {
                    make(desk, call);
                    names.add(call.group(1));
                }
            }
        }
        return names;
    }

    private static void make(Desk desk, Matcher call) {
        String name = call.group(1);
        int[] n = numbers(call.group(2));
        Check.due(name + "(" + call.group(2) + ")", desk.call(name, n), Integer.parseInt(call.group(3)));
        if (name.equals("feed")) {
            Matcher text = FED.matcher(call.group(4));
            Check.due(call.group() + " tells its bytes", text.matches() && text.group(1).equals(bytes(n)) ? 1 : 0, 1);
        }
    }

    private static int[] numbers(String told) {
        return told.isEmpty() ? new int[0] : Arrays.stream(told.split(", ")).mapToInt(Integer::decode).toArray();
    }

    private static String bytes(int[] n) {
        StringBuilder text = new StringBuilder();
        for (int k = 0; k < 4 * n.length; k++) {
            text.append((char) (n[k / 4] >>> 24 - k % 4 * 8 & 255));
        }
        return text.toString();
    }

    private static void everyCallIsShown(Set<String> shown) {
        for (Method m : BoatsHome.class.getDeclaredMethods()) {
            if (Modifier.isPublic(m.getModifiers())) {
                Check.due(m.getName() + " is shown", shown.contains(m.getName()) ? 1 : 0, 1);
            }
        }
    }

    private static void everyTestIsNamed(String page) throws IOException {
        Set<String> named = new TreeSet<>();
        Matcher m = TEST.matcher(page);
        while (m.find()) {
            named.add(m.group(1));
        }
        Set<String> there = new TreeSet<>();
        try (DirectoryStream<Path> files = Files.newDirectoryStream(Path.of("src/test/java"), "*Test.java")) {
            for (Path file : files) {
                there.add(file.getFileName().toString().replace(".java", ""));
            }
        }
        Check.due("it names the tests " + there + " as " + named, named.equals(there) ? 1 : 0, 1);
    }
}
