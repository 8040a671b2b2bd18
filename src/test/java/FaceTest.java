import java.lang.reflect.Constructor;
import java.lang.reflect.Field;
import java.lang.reflect.Method;
import java.lang.reflect.Modifier;
import java.nio.file.Files;
import java.nio.file.Path;
import java.util.ArrayList;
import java.util.Arrays;
import java.util.List;
import java.util.regex.Matcher;
import java.util.regex.Pattern;

/** The public face word for word, and what LANGUAGE.md lets a text search see. */
public final class FaceTest {
    private static final String[] FACE = {
        "feed 5", "end 1", "wind 4", "port 2", "speed 4", "water 2", "lasts 3", "skipper 1", "insurer 1", "fault 1",
        "covers 5", "begin 4", "place 2", "sail 2", "passage 2", "boat 2", "pay 5", "deliver 5", "crew 3", "flight 3",
        "plan 0", "planned 1", "count 1"};

    public static void main(String[] args) throws Exception {
        constants();
        members();
        classesInside();
        source();
        Check.finish();
    }

    private static void constants() {
        Check.due("NONE", BoatsHome.NONE, -1);
        Check.due("RANGE", BoatsHome.RANGE, -2);
        Check.due("FULL", BoatsHome.FULL, -3);
        Check.due("STATE", BoatsHome.STATE, -4);
    }

    private static void members() {
        List<String> seen = new ArrayList<>();
        for (Method m : BoatsHome.class.getDeclaredMethods()) {
            if (!Modifier.isPrivate(m.getModifiers())) {
                seen.add(m.getName() + " " + m.getParameterCount());
                Check.due(m.getName() + " answers an int", m.getReturnType() == int.class ? 1 : 0, 1);
            }
        }
        List<String> want = new ArrayList<>(Arrays.asList(FACE));
        seen.sort(null);
        want.sort(null);
        Check.due("methods are " + seen, seen.equals(want) ? 1 : 0, 1);
        int fields = 0;
        for (Field f : BoatsHome.class.getDeclaredFields()) {
            fields += Modifier.isPrivate(f.getModifiers()) ? 0 : 1;
        }
        Check.due("fields that are seen", fields, 4);
        Constructor<?>[] made = BoatsHome.class.getDeclaredConstructors();
        Check.due("constructors", made.length, 1);
        Check.due("final class", Modifier.isFinal(BoatsHome.class.getModifiers()) ? 1 : 0, 1);
    }

    /** LANGUAGE.md's rules 1, 2 and 11, as far as the compiled classes tell. */
    private static void classesInside() {
        List<String> face = new ArrayList<>();
        for (String call : FACE) {
            face.add(call.split(" ")[0]);
        }
        List<Class<?>> all = new ArrayList<>(Arrays.asList(BoatsHome.class.getDeclaredClasses()));
        Check.due("classes are at most twelve", all.size() + 1 <= 12 ? 1 : 0, 1);
        all.add(BoatsHome.class);
        for (Class<?> one : all) {
            boolean inside = one != BoatsHome.class;
            Check.due(one.getName() + " is static", inside && !Modifier.isStatic(one.getModifiers()) ? 1 : 0, 0);
            Check.due(one.getName() + " is seen", inside && Modifier.isPublic(one.getModifiers()) ? 1 : 0, 0);
            Check.due("classes inside " + one.getName(), inside ? one.getDeclaredClasses().length : 0, 0);
            for (Method m : one.getDeclaredMethods()) {
                boolean borne = (inside || Modifier.isPrivate(m.getModifiers())) && face.contains(m.getName());
                Check.due(one.getName() + "." + m.getName() + " bears a call's name", borne ? 1 : 0, 0);
                Check.due(one.getName() + "." + m.getName() + " takes more than seven", m.getParameterCount() > 7 ? 1 : 0, 0);
            }
            int fields = 0;
            for (Field f : one.getDeclaredFields()) {
                boolean constant = Modifier.isStatic(f.getModifiers());
                fields += constant ? 0 : 1;
                Check.due(one.getName() + "." + f.getName() + " is static state", constant && !Modifier.isFinal(f.getModifiers()) ? 1 : 0, 0);
            }
            Check.due(one.getName() + " has more than twenty fields", fields > 20 ? 1 : 0, 0);
        }
    }

    private static void source() throws Exception {
        String text = Files.readString(Path.of("src/main/java/BoatsHome.java"));
        String code = text.replaceAll("(?s)/\\*.*?\\*/", "").replaceAll("//[^\n]*", "");
        Matcher m = Pattern.compile("\\b(throw|throws|try|catch|synchronized|assert|package)\\b|->|::|Exact\\(").matcher(code);
        while (m.find()) {
            Check.due("LANGUAGE.md forbids " + m.group(), 1, 0);
        }
        Matcher imports = Pattern.compile("import ([^;]+);").matcher(code);
        while (imports.find()) {
            Check.due("import of " + imports.group(1), imports.group(1).matches("java\\.util\\.(Arrays|ArrayList|List|Iterator)") ? 1 : 0, 1);
        }
    }
}
