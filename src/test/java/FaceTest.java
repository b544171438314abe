import java.io.IOException;
import java.lang.reflect.Constructor;
import java.lang.reflect.Field;
import java.lang.reflect.Method;
import java.lang.reflect.Modifier;
import java.nio.file.Files;
import java.nio.file.Path;
import java.util.ArrayList;
import java.util.Arrays;
import java.util.List;
import java.util.Set;
import java.util.TreeSet;
import java.util.stream.Collectors;

/** The face of the document, and those rules of LANGUAGE.md that can be seen by reflection or in the text. */
public final class FaceTest {
    private static final String INDEX = "IndexOutOfBoundsException";
    private static final String ARGUMENT = "IllegalArgumentException";
    private static final String STATE = "IllegalStateException";

    private static final List<String> FACE = List.of(
            "int addGrower(int) " + ARGUMENT + " " + STATE,
            "int build(int int int int int int int) " + INDEX + " " + ARGUMENT + " " + STATE,
            "boolean setNet(int boolean) " + INDEX,
            "int insure(int int int int) " + INDEX + " " + ARGUMENT,
            "int mend(int) " + INDEX + " " + STATE,
            "int grower(int int) " + INDEX,
            "int house(int int) " + INDEX,
            "int pane(int int) " + INDEX,
            "int fund(int) " + ARGUMENT + " " + STATE,
            "int addLayer(int int int) " + ARGUMENT + " " + STATE,
            "int layer(int int) " + INDEX,
            "int count(int) " + INDEX,
            "int endYear()",
            "int storm(int int int int int int int) " + ARGUMENT + " " + STATE,
            "int told(int int) " + INDEX,
            "int wouldBe(int int int int int int int int) " + ARGUMENT + " " + INDEX,
            "int worst(int int) " + ARGUMENT,
            "int advise(int int int) " + ARGUMENT,
            "double loss()",
            "long digest()");

    public static void main(String[] args) throws IOException {
        face();
        insides();
        text();
        Check.finish();
    }

    private static String shown(Method method) {
        StringBuilder text = new StringBuilder(method.getReturnType().getName());
        String numbers = Arrays.stream(method.getParameterTypes()).map(Class::getName).collect(Collectors.joining(" "));
        text.append(' ').append(method.getName()).append('(').append(numbers).append(')');
        for (Class<?> thrown : method.getExceptionTypes()) {
            text.append(' ').append(thrown.getSimpleName());
        }
        return text.toString();
    }

    private static void face() {
        Class<?> pool = HailPool.class;
        if (pool.getModifiers() != (Modifier.PUBLIC | Modifier.FINAL)) {
            Check.fault("HailPool is not just public and final");
        }
        Set<String> found = new TreeSet<>();
        Set<String> names = new TreeSet<>();
        for (Method method : pool.getDeclaredMethods()) {
            if (!Modifier.isPrivate(method.getModifiers())) {
                found.add(shown(method));
                names.add(method.getName());
            }
        }
        if (!found.equals(new TreeSet<>(FACE))) {
            Check.fault("the face is " + found);
        }
        for (Method method : pool.getDeclaredMethods()) {
            int kind = method.getModifiers() & ~(Modifier.PRIVATE | Modifier.STATIC);
            boolean isOfFace = !Modifier.isPrivate(method.getModifiers());
            if (isOfFace ? method.getModifiers() != Modifier.PUBLIC : kind != 0) {
                Check.fault("rule 1: " + method + " is not just public, or private");
            }
        }
        for (Class<?> inside : classes()) {
            for (Method method : inside.getDeclaredMethods()) {
                if (inside != pool || Modifier.isPrivate(method.getModifiers())) {
                    if (names.contains(method.getName())) {
                        Check.fault("rule 1: " + method + " bears the name of a public one");
                    }
                }
            }
        }
        Constructor<?>[] made = pool.getDeclaredConstructors();
        if (made.length != 1 || made[0].getParameterCount() != 0 || !Modifier.isPublic(made[0].getModifiers())) {
            Check.fault("the constructors are " + Arrays.toString(made));
        }
        for (Field field : pool.getDeclaredFields()) {
            if (!Modifier.isPrivate(field.getModifiers())) {
                Check.fault("rule 1: " + field + " is not private");
            }
        }
    }

    private static List<Class<?>> classes() {
        List<Class<?>> all = new ArrayList<>(List.of(HailPool.class));
        all.addAll(Arrays.asList(HailPool.class.getDeclaredClasses()));
        return all;
    }

    private static void insides() {
        if (classes().size() > 12) {
            Check.fault("rule 11: " + classes().size() + " classes");
        }
        for (Class<?> inside : classes()) {
            if (inside != HailPool.class && !Modifier.isStatic(inside.getModifiers())) {
                Check.fault("rule 2: " + inside + " is not static");
            }
            int fields = 0;
            for (Field field : inside.getDeclaredFields()) {
                if (!Modifier.isStatic(field.getModifiers())) {
                    fields++;
                } else if (!Modifier.isFinal(field.getModifiers())) {
                    Check.fault("rule 5: " + field);
                }
            }
            if (fields > 20) {
                Check.fault("rule 11: " + inside + " has " + fields + " fields");
            }
            for (Method method : inside.getDeclaredMethods()) {
                if (method.getParameterCount() > 7 && !method.getName().equals("wouldBe")) {
                    Check.fault("rule 11: " + method);
                }
            }
        }
    }

    private static void text() throws IOException {
        String source = Files.readString(Path.of("src/main/java/HailPool.java"));
        for (String line : source.lines().collect(Collectors.toList())) {
            if (line.startsWith("import ") && !line.matches("import java\\.util\\.(ArrayList|List);")) {
                Check.fault("rule 4: " + line);
            }
            for (String word : List.of("->", "::", "synchronized", "assert ", "finally", "catch", "Exact(", "static {")) {
                if (line.contains(word)) {
                    Check.fault("a rule: " + line);
                }
            }
        }
        for (int i = 0; i < source.length(); i++) {
            if (source.charAt(i) > 126) {
                Check.fault("a sign beyond ASCII at " + i);
            }
        }
    }
}
