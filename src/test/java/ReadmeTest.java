import java.io.IOException;
import java.lang.reflect.Method;
import java.lang.reflect.Modifier;
import java.nio.file.Files;
import java.nio.file.Path;

/** What README.md tells of the class: its example answers as it says there, and it names every call and every test. */
public final class ReadmeTest {
    public static void main(String[] args) throws IOException {
        String readme = Files.readString(Path.of("README.md"));
        example(readme);
        everyCall(readme);
        everyTest(readme);
        Check.finish();
    }

    private static void example(String readme) {
        HailPool pool = new HailPool();
        line(readme, "pool.addGrower(5000)", pool.addGrower(5000), 0);
        line(readme, "pool.build(0, 3, 3, 4, 3, 4, 50)", pool.build(0, 3, 3, 4, 3, 4, 50), 0);
        line(readme, "pool.insure(0, 100, 400, 50)", pool.insure(0, 100, 400, 50), 0);
        line(readme, "pool.fund(300)", pool.fund(300), 300);
        line(readme, "pool.addLayer(100, 200, 50)", pool.addLayer(100, 200, 50), 0);
        line(readme, "pool.wouldBe(0, 4, 2, 0, 2, 12, 8, 2)", pool.wouldBe(0, 4, 2, 0, 2, 12, 8, 2), 600);
        line(readme, "pool.storm(0, 4, 2, 0, 2, 12, 8)", pool.storm(0, 4, 2, 0, 2, 12, 8), 400);
        line(readme, "pool.told(0, 4)", pool.told(0, 4), 100);
        line(readme, "pool.grower(0, 0)", pool.grower(0, 0), 5400);
        line(readme, "pool.mend(0)", pool.mend(0), 600);
        line(readme, "pool.endYear()", pool.endYear(), 30);
    }

    /** The README holds this call, and tells its answer behind it in the same line. */
    private static void line(String readme, String call, int got, int want) {
        Check.due("README " + call, got, want);
        int at = readme.indexOf(call + ";");
        int end = at < 0 ? -1 : readme.indexOf('\n', at);
        String told = end < 0 ? "" : readme.substring(at + call.length() + 1, end).trim();
        if (!told.matches("// " + want + "\\b.*")) {
            Check.fault("README tells of " + call + ": \"" + told + "\", due is " + want);
        }
    }

    private static void everyCall(String readme) {
        for (Method method : HailPool.class.getDeclaredMethods()) {
            if (Modifier.isPublic(method.getModifiers()) && !readme.contains("| `" + method.getName() + "(")) {
                Check.fault("README does not tell of " + method.getName());
            }
        }
    }

    private static void everyTest(String readme) throws IOException {
        try (var files = Files.list(Path.of("src/test/java"))) {
            files.map(file -> file.getFileName().toString().replace(".java", ""))
                    .filter(name -> name.endsWith("Test") && !readme.contains("| `" + name + "` |"))
                    .forEach(name -> Check.fault("README does not tell of " + name));
        }
    }
}
