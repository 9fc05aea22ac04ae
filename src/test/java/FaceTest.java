import java.io.IOException;
import java.lang.reflect.Constructor;
import java.lang.reflect.Field;
import java.lang.reflect.Method;
import java.lang.reflect.Modifier;
import java.nio.file.Files;
import java.nio.file.Path;
import java.util.Arrays;
import java.util.List;
import java.util.Set;
import java.util.TreeSet;

/** The class has the document's face and no more, and keeps to LANGUAGE.md where that can be seen. */
public final class FaceTest {
    private static final List<String> FACE = List.of(
            "boolean lead(int, int, int, int)",
            "boolean mark(int, int, boolean)",
            "int make(int, int)",
            "int call(int, int)",
            "int move(int, int)",
            "int drop(int)",
            "int choose()",
            "boolean otherwise()",
            "int repeat()",
            "boolean end()",
            "void clear()",
            "int size()",
            "int check()",
            "int faultAt()",
            "int held(int, int)",
            "int run(int, int) throws IllegalArgumentException IllegalStateException",
            "int runFault()",
            "int runAt()",
            "int steps()",
            "int left(int)");

    // Rule 2, 4, 5, 6 and 13: what the program's text never has.
    private static final List<String> RULED_OUT = List.of("->", "::", "static {", "finally", "synchronized",
            "assert ", "try {", "catch (", "Exact(", "hashCode", "toString", "System.out", "package ");

    private static int wrong = 0;

    private static void due(boolean holds, String what) {
        if (!holds) {
            wrong++;
            System.out.println("not as due: " + what);
        }
    }

    private static String names(Class<?>[] types) {
        StringBuilder all = new StringBuilder();
        for (Class<?> type : types) {
            all.append(all.length() == 0 ? "" : ", ").append(type.getSimpleName());
        }
        return all.toString();
    }

    private static String faceOf(Method m) {
        String thrown = names(m.getExceptionTypes()).replace(",", "");
        return m.getReturnType().getSimpleName() + " " + m.getName() + "(" + names(m.getParameterTypes()) + ")"
                + (thrown.isEmpty() ? "" : " throws " + thrown);
    }

    private static void lookAtTheFace() {
        Set<String> got = new TreeSet<>();
        for (Method m : StateTypes.class.getDeclaredMethods()) {
            if (Modifier.isPublic(m.getModifiers())) {
                got.add(faceOf(m));
                due(!Modifier.isStatic(m.getModifiers()), "no static " + m.getName());
            } else {
                due(Modifier.isPrivate(m.getModifiers()), "private " + m.getName());
            }
        }
        due(got.equals(new TreeSet<>(FACE)), "the face " + got);
        int kind = StateTypes.class.getModifiers();
        due(Modifier.isPublic(kind) && Modifier.isFinal(kind), "public and final");
        Constructor<?>[] made = StateTypes.class.getDeclaredConstructors();
        due(made.length == 1 && Modifier.isPublic(made[0].getModifiers()) && made[0].getParameterCount() == 0,
                "one public constructor");
        for (Field f : StateTypes.class.getDeclaredFields()) {
            due(Modifier.isPrivate(f.getModifiers()), "private " + f.getName());
        }
    }

    private static void lookAtTheClassesInside() {
        Set<String> face = new TreeSet<>();
        for (String line : FACE) {
            face.add(line.substring(line.indexOf(' ') + 1, line.indexOf('(')));
        }
        Class<?>[] inside = StateTypes.class.getDeclaredClasses();
        due(inside.length < 12, "at most some twelve classes");
        for (Class<?> c : inside) {
            due(Modifier.isStatic(c.getModifiers()) && !Modifier.isPublic(c.getModifiers()), "kind of " + c);
            for (Method m : c.getDeclaredMethods()) {
                due(!face.contains(m.getName()), "no face's name for " + m);
            }
        }
        for (Class<?> c : withOuter(inside)) {
            int fields = 0;
            for (Field f : c.getDeclaredFields()) {
                if (Modifier.isStatic(f.getModifiers())) {
                    due(Modifier.isFinal(f.getModifiers()), "final " + f);
                } else {
                    fields++;
                }
            }
            due(fields <= 20, "at most some twenty fields in " + c);
        }
    }

    private static Class<?>[] withOuter(Class<?>[] inside) {
        Class<?>[] all = Arrays.copyOf(inside, inside.length + 1);
        all[inside.length] = StateTypes.class;
        return all;
    }

    private static void lookAtTheText() throws IOException {
        String text = Files.readString(Path.of("src/main/java/StateTypes.java"));
        for (String ruledOut : RULED_OUT) {
            due(!text.contains(ruledOut), "no " + ruledOut);
        }
        due(text.chars().allMatch(c -> c < 256), "characters 0 to 255");
        for (String line : text.split("\n")) {
            due(!line.startsWith("import ") || line.equals("import java.util.Arrays;"), line);
        }
    }

    public static void main(String[] args) throws IOException {
        lookAtTheFace();
        lookAtTheClassesInside();
        lookAtTheText();
        System.out.println(wrong == 0 ? "the face is as due" : wrong + " things are not as due");
        if (wrong != 0) {
            System.exit(1);
        }
    }
}
