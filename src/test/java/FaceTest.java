import java.io.IOException;
import java.lang.reflect.Constructor;
import java.lang.reflect.Field;
import java.lang.reflect.Method;
import java.lang.reflect.Modifier;
import java.nio.file.Files;
import java.nio.file.Path;
import java.util.ArrayList;
import java.util.List;
import java.util.Set;
import java.util.TreeSet;
import java.util.regex.Matcher;
import java.util.regex.Pattern;

/** The face of the class, and those rules of LANGUAGE.md that can be seen from outside. */
public final class FaceTest {
    private static final Checks T = new Checks("FaceTest");
    private static final String FACE = "feed/1 end/1 text/0 fault/0 rule/1 point/2 ring/3 corner/3 arc/2 along/3 gone/1 "
        + "left/1 edge/3 why/2 size/2 keep/1 limit/1 within/3 move/3 pin/2 shake/2 store/1 back/1 sheet/3 lay/3 "
        + "read/4 torn/0 count/1";

    public static void main(String[] args) throws IOException {
        face();
        classesInside();
        source(Files.readString(Path.of(args.length > 0 ? args[0] : "src/main/java/SharedBorders.java")));
        T.finish();
    }

    private static void face() {
        Class<?> c = SharedBorders.class;
        T.isTrue("public and final", Modifier.isPublic(c.getModifiers()) && Modifier.isFinal(c.getModifiers()));
        Set<String> found = new TreeSet<>();
        for (Method m : c.getDeclaredMethods()) {
            if (Modifier.isPrivate(m.getModifiers())) {
                T.isTrue(m + " bears no public name", !(" " + FACE).contains(" " + m.getName() + "/"));
            } else {
                T.isTrue(m + " is public, no more, and answers an int",
                    m.getModifiers() == Modifier.PUBLIC && m.getReturnType() == int.class);
                found.add(m.getName() + "/" + m.getParameterCount());
            }
        }
        T.isTrue("methods: " + found, found.equals(new TreeSet<>(List.of(FACE.split(" ")))));
        Set<String> constants = new TreeSet<>();
        for (Field f : c.getDeclaredFields()) {
            if (!Modifier.isPrivate(f.getModifiers())) {
                constants.add(f.getName());
            }
            if (Modifier.isStatic(f.getModifiers())) {
                T.isTrue(f + " is final", Modifier.isFinal(f.getModifiers()));
            }
        }
        T.isTrue("constants: " + constants, constants.equals(Set.of("BAD", "STATE", "FULL", "NONE")));
        T.due("BAD", SharedBorders.BAD, -1);
        T.due("STATE", SharedBorders.STATE, -2);
        T.due("FULL", SharedBorders.FULL, -3);
        T.due("NONE", SharedBorders.NONE, -4);
        Constructor<?>[] makers = c.getDeclaredConstructors();
        T.isTrue("one public constructor", makers.length == 1 && makers[0].getModifiers() == Modifier.PUBLIC
            && makers[0].getParameterCount() == 0);
    }

    private static void classesInside() {
        Set<String> names = new TreeSet<>();
        for (String m : FACE.split(" ")) {
            names.add(m.substring(0, m.indexOf('/')));
        }
        Class<?>[] inside = SharedBorders.class.getDeclaredClasses();
        T.isTrue("at most some twelve classes", inside.length <= 11);
        List<Class<?>> all = new ArrayList<>(List.of(inside));
        for (Class<?> c : all) {
            T.isTrue(c + " is static", Modifier.isStatic(c.getModifiers()));
            T.isTrue(c + " has some twenty fields at most", c.getDeclaredFields().length <= 24);
            for (Method m : c.getDeclaredMethods()) {
                T.isTrue(m + " bears no public name", !names.contains(m.getName()));
                T.isTrue(m + " takes seven at most", m.getParameterCount() <= 7);
            }
        }
    }

    private static void source(String text) {
        String code = text.replaceAll("(?s)/\\*.*?\\*/", "").replaceAll("//[^\n]*", "");
        String[] banned = {"throw", "throws", "try", "catch", "synchronized", "assert", "import", "package", "Object",
            "Exception", "Exact", "hashCode", "toString", "double", "float", "volatile", "native"};
        for (String word : banned) {
            T.isTrue("no '" + word + "'", !Pattern.compile("\\b" + word + "\\b").matcher(code).find());
        }
        T.isTrue("no lambda, no method reference", !code.contains("->") && !code.contains("::"));
        T.isTrue("signs 1 to 127 alone", text.chars().allMatch(c -> c < 128));
        String[] lines = code.split("\n");
        int opened = 0;
        for (int i = 0; i < lines.length; i++) {
            if (lines[i].matches(" {4}(?: {4})?[a-zA-Z][\\w\\[\\] ]*\\([\\w\\[\\], ]*\\) \\{")) {
                opened = i;
            }
            if (lines[i].matches(" {4}(?: {4})?\\}")) {
                T.isTrue("short: " + lines[opened].trim(), i - opened <= 60);
            }
        }
        // What is made is made with the object itself: calls make nothing.
        Matcher made = Pattern.compile("[^\n]*\\bnew\\b[^\n]*").matcher(code);
        while (made.find()) {
            String line = made.group().trim();
            T.isTrue("made with the object: " + line, line.matches("(private )?final .* = new .*;")
                || line.matches("(this\\.)?\\w+(\\[k\\])? = new .*;"));
        }
    }
}
