import java.io.IOException;
import java.lang.reflect.Constructor;
import java.lang.reflect.Field;
import java.lang.reflect.Method;
import java.lang.reflect.Modifier;
import java.nio.file.Files;
import java.nio.file.Path;
import java.util.ArrayList;
import java.util.Arrays;
import java.util.List;
import java.util.Set;
import java.util.TreeSet;
import java.util.stream.Collectors;

/** The face of the document, and those rules of LANGUAGE.md that can be seen by reflection or in the text. */
public final class FaceTest {
    private static final String INDEX = "IndexOutOfBoundsException";
    private static final String ARGUMENT = "IllegalArgumentException";
    private static final String STATE = "IllegalStateException";

    private static final List<String> FACE = List.of(
            "int addGrower(1) " + ARGUMENT + " " + STATE,
            "int build(7) " + INDEX + " " + ARGUMENT + " " + STATE,
            "boolean setNet(2) " + INDEX,
            "int insure(4) " + INDEX + " " + ARGUMENT,
            "int mend(1) " + INDEX + " " + STATE,
            "int grower(2) " + INDEX,
            "int house(2) " + INDEX,
            "int pane(2) " + INDEX,
            "int fund(1) " + ARGUMENT + " " + STATE,
            "int addLayer(3) " + ARGUMENT + " " + STATE,
            "int layer(2) " + INDEX,
            "int count(1) " + INDEX,
            "int endYear(0)",
            "int storm(7) " + ARGUMENT + " " + STATE,
            "int told(2) " + INDEX,
            "int wouldBe(8) " + ARGUMENT + " " + INDEX,
            "int worst(2) " + ARGUMENT,
            "int advise(3) " + ARGUMENT,
            "double loss(0)",
            "long digest(0)");

    public static void main(String[] args) throws IOException {
        face();
        insides();
        text();
        Check.finish();
    }

    private static String shown(Method method) {
        StringBuilder text = new StringBuilder(method.getReturnType().getName());
        text.append(' ').append(method.getName()).append('(').append(method.getParameterCount()).append(')');
        for (Class<?> thrown : method.getExceptionTypes()) {
            text.append(' ').append(thrown.getSimpleName());
        }
        return text.toString();
    }

    private static void face() {
        Class<?> pool = HailPool.class;
        if (pool.getModifiers() != (Modifier.PUBLIC | Modifier.FINAL)) {
            Check.fault("HailPool is not just public and final");
        }
        Set<String> found = new TreeSet<>();
        Set<String> names = new TreeSet<>();
        for (Method method : pool.getDeclaredMethods()) {
            if (!Modifier.isPrivate(method.getModifiers())) {
                found.add(shown(method));
                names.add(method.getName());
            }
        }
        if (!found.equals(new TreeSet<>(FACE))) {
            Check.fault("the face is " + found);
        }
        for (Class<?> inside : classes()) {
            for (Method method : inside.getDeclaredMethods()) {
                if (inside != pool || Modifier.isPrivate(method.getModifiers())) {
                    if (names.contains(method.getName())) {
                        Check.fault("rule 1: " + method + " bears the name of a public one");
                    }
                }
            }
        }
        Constructor<?>[] made = pool.getDeclaredConstructors();
        if (made.length != 1 || made[0].getParameterCount() != 0 || !Modifier.isPublic(made[0].getModifiers())) {
            Check.fault("the constructors are " + Arrays.toString(made));
        }
        for (Field field : pool.getDeclaredFields()) {
            if (!Modifier.isPrivate(field.getModifiers())) {
                Check.fault("rule 1: " + field + " is not private");
            }
        }
    }

    private static List<Class<?>> classes() {
        List<Class<?>> all = new ArrayList<>(List.of(HailPool.class));
        all.addAll(Arrays.asList(HailPool.class.getDeclaredClasses()));
        return all;
    }

    private static void insides() {
        if (classes().size() > 12) {
            Check.fault("rule 11: " + classes().size() + " classes");
        }
        for (Class<?> inside : classes()) {
            if (inside != HailPool.class && !Modifier.isStatic(inside.getModifiers())) {
                Check.fault("rule 2: " + inside + " is not static");
            }
            int fields = 0;
            for (Field field : inside.getDeclaredFields()) {
                if (!Modifier.isStatic(field.getModifiers())) {
                    fields++;
                } else if (!Modifier.isFinal(field.getModifiers())) {
                    Check.fault("rule 5: " + field);
                }
            }
            if (fields > 20) {
                Check.fault("rule 11: " + inside + " has " + fields + " fields");
            }
            for (Method method : inside.getDeclaredMethods()) {
                if (method.getParameterCount() > 7 && !method.getName().equals("wouldBe")) {
                    Check.fault("rule 11: " + method);
                }
            }
        }
    }

    private static void text() throws IOException {
        String source = Files.readString(Path.of("src/main/java/HailPool.java"));
        for (String line : source.lines().collect(Collectors.toList())) {
            if (line.startsWith("import ") && !line.matches("import java\\.util\\.(ArrayList|List);")) {
                Check.fault("rule 4: " + line);
            }
            for (String word : List.of("->", "::", "synchronized", "assert ", "finally", "catch", "Exact(", "static {")) {
                if (line.contains(word)) {
                    Check.fault("a rule: " + line);
                }
            }
        }
        for (int i = 0; i < source.length(); i++) {
            if (source.charAt(i) > 126) {
                Check.fault("a sign beyond ASCII at " + i);
            }
        }
    }
}
