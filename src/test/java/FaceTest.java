import java.io.IOException;
import java.lang.reflect.Constructor;
import java.lang.reflect.Field;
import java.lang.reflect.Method;
import java.lang.reflect.Modifier;
import java.nio.file.Files;
import java.nio.file.Path;
import java.util.ArrayList;
import java.util.Arrays;
import java.util.HashSet;
import java.util.List;
import java.util.Set;
import java.util.TreeSet;
import java.util.regex.Matcher;
import java.util.regex.Pattern;

/** The face of the document, no more and no less, and those rules of LANGUAGE.md that can be read off the source. */
public final class FaceTest {
    private static final Check check = new Check();
    private static final Path SOURCE = Path.of("src/main/java/SkipRope.java");
    private static final String[] FACE = {
        "int type(int)", "int clear()", "int yard()", "int jumper(int, int)", "int now(int)",
        "int ticks()", "int speeds(int)", "int goes(int)", "int comes(int, int)", "int undo()",
        "int stay(int)", "int pace(int)", "int entry(int)", "int odds(int, int, int)",
        "int sees(int, int, int)", "int forget()", "int ways(int)", "int look(int)",
        "int rate(int, int)", "int keep(int)", "int back(int)", "int count(int)", "long trace()",
    };

    public static void main(String[] args) throws IOException {
        theFace();
        theConstants();
        theClassesInside();
        String code = withoutComments(Files.readString(SOURCE));
        forbiddenWords(code);
        shortMethods(code);
        nothingIsMadeByCalls(code);
        check.end();
    }

    private static String told(Method m) {
        List<String> types = new ArrayList<>();
        for (Class<?> type : m.getParameterTypes()) {
            types.add(type.getSimpleName());
        }
        return m.getReturnType().getSimpleName() + " " + m.getName() + "(" + String.join(", ", types) + ")";
    }

    private static void theFace() {
        int modifiers = SkipRope.class.getModifiers();
        check.holds("public and final", Modifier.isPublic(modifiers) && Modifier.isFinal(modifiers));
        Set<String> names = new HashSet<>();
        Set<String> visible = new TreeSet<>();
        for (Method m : SkipRope.class.getDeclaredMethods()) {
            if (!Modifier.isPrivate(m.getModifiers())) {
                visible.add(told(m));
                names.add(m.getName());
                check.holds(told(m) + " is public, not static",
                    Modifier.isPublic(m.getModifiers()) && !Modifier.isStatic(m.getModifiers()));
            }
        }
        Set<String> wanted = new TreeSet<>(Arrays.asList(FACE));
        check.holds("the methods: " + visible, visible.equals(wanted));
        for (Method m : SkipRope.class.getDeclaredMethods()) {
            check.holds("no private method bears a public name: " + m.getName(),
                Modifier.isPublic(m.getModifiers()) || !names.contains(m.getName()));
        }
        Constructor<?>[] constructors = SkipRope.class.getDeclaredConstructors();
        check.due("constructors", constructors.length, 1);
        check.holds("public, without parameters", Modifier.isPublic(constructors[0].getModifiers())
            && constructors[0].getParameterCount() == 0);
    }

    private static void theConstants() {
        check.due("BAD", SkipRope.BAD, -1);
        check.due("STATE", SkipRope.STATE, -2);
        check.due("FULL", SkipRope.FULL, -3);
        check.due("NONE", SkipRope.NONE, -9);
        check.due("NO", SkipRope.NO, -1000000);
        Set<String> wanted = new TreeSet<>(List.of("BAD", "STATE", "FULL", "NONE", "NO"));
        Set<String> visible = new TreeSet<>();
        for (Field f : SkipRope.class.getDeclaredFields()) {
            if (!Modifier.isPrivate(f.getModifiers())) {
                visible.add(f.getName());
                check.holds(f.getName() + " is a public constant of int", f.getType() == int.class
                    && Modifier.isPublic(f.getModifiers()) && Modifier.isStatic(f.getModifiers()));
            }
        }
        check.holds("the constants: " + visible, visible.equals(wanted));
    }

    private static void theClassesInside() {
        Class<?>[] inside = SkipRope.class.getDeclaredClasses();
        check.holds("at most some twelve classes", inside.length + 1 <= 12);
        for (Class<?> one : inside) {
            check.holds(one + " is static, not public", Modifier.isStatic(one.getModifiers())
                && !Modifier.isPublic(one.getModifiers()) && !Modifier.isProtected(one.getModifiers()));
        }
        List<Class<?>> all = new ArrayList<>(List.of(inside));
        all.add(SkipRope.class);
        for (Class<?> one : all) {
            int fields = 0;
            for (Field f : one.getDeclaredFields()) {
                boolean isStatic = Modifier.isStatic(f.getModifiers());
                fields += isStatic ? 0 : 1;
                check.holds(f + " is final, if it is static", !isStatic || Modifier.isFinal(f.getModifiers()));
            }
            check.holds(one + " has at most twenty fields", fields <= 20);
            for (Method m : one.getDeclaredMethods()) {
                check.holds(m + " has at most seven parameters", m.getParameterCount() <= 7);
            }
        }
    }

    private static String withoutComments(String source) {
        return source.replaceAll("(?s)/\\*.*?\\*/", "").replaceAll("//[^\n]*", "");
    }

    private static void forbiddenWords(String code) {
        String[] words = {
            "throw", "throws", "try", "catch", "finally", "synchronized", "assert", "import", "package", "native",
            "volatile", "transient", "var", "Exact", "Thread", "Random", "currentTimeMillis", "nanoTime", "Object",
            "hashCode", "toString", "getClass",
        };
        for (String word : words) {
            check.holds("no " + word, !Pattern.compile("\\b" + word + "\\b").matcher(code).find());
        }
        check.holds("no lambda", !code.contains("->"));
        check.holds("no method reference", !code.contains("::"));
        check.holds("no text constant", !code.contains("\""));
        check.holds("no static block", !Pattern.compile("static\\s*\\{").matcher(code).find());
        check.holds("signs 1 to 127", code.chars().allMatch(sign -> sign >= 1 && sign <= 127));
    }

    private static void shortMethods(String code) {
        String[] lines = code.split("\n");
        Pattern opens = Pattern.compile("^(    |        )[a-zA-Z].*\\) \\{$");
        for (int i = 0; i < lines.length; i++) {
            Matcher m = opens.matcher(lines[i]);
            if (!m.matches()) {
                continue;
            }
            int end = i;
            while (end < lines.length - 1 && !lines[end].equals(m.group(1) + "}")) {
                end++;
            }
            check.holds("some sixty lines at most: " + lines[i].trim(), end - i < 60);
        }
    }

    /** All calls of a run share one room, so rows and scenes are made in constructors alone. */
    private static void nothingIsMadeByCalls(String code) {
        Pattern field = Pattern.compile("^(    |        )(private )?(final )?\\w+(\\[\\])? \\w+ = \\{?new .*");
        Set<String> others = new TreeSet<>();
        for (String line : code.split("\n")) {
            if (line.contains("new ") && !field.matcher(line).matches()) {
                others.add(line.trim());
            }
        }
        Set<String> known = new TreeSet<>(List.of(
            "new JumperKind(), new BouncerKind(), new HopperKind(),",
            "new CrossKind(), new PepperKind(), new DoubleKind(),",
            "ring[i] = new Scene();"));
        check.holds("made in constructors alone: " + others, others.equals(known));
    }
}
