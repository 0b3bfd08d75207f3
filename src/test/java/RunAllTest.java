import java.io.IOException;
import java.nio.file.Files;
import java.nio.file.Path;
import java.util.Comparator;
import java.util.LinkedHashMap;
import java.util.List;
import java.util.Map;
import java.util.stream.Stream;

/** .ci/run runs every test, and fails if one fails: it is tried in a small project of its own. */
public final class RunAllTest {
    private static final String OWN = "main/src/test/java/";
    private static final String SHARED = "shared/tests/";
    private static final String CLASS = "main/src/main/java/YearBook.java";
    private static int wrong;

    public static void main(String[] args) throws IOException, InterruptedException {
        Map<String, String> whole = wholeProject();
        expect("all tests pass", 0, whole, "One", "Two", "Three", "Four");
        expect("an own one fails", 1, with(whole, OWN + "OneTest.java", test("OneTest", "One", 1)),
            "One", "Two", "Three", "Four");
        expect("a shared one fails", 1, with(whole, SHARED + "Three.java", test("Three", "Three", 1)),
            "One", "Two", "Three", "Four");
        expect("an own one is no Java", 1, with(whole, OWN + "OneTest.java", "no Java"), "Three", "Four");
        expect("a shared one is no Java", 1, with(whole, SHARED + "Three.java", "no Java"), "One", "Two", "Four");
        expect("the class is no Java", 1, with(whole, CLASS, "no Java"));
        expect("there is no shared one", 1, without(whole, SHARED), "One", "Two");
        System.out.println(wrong == 0 ? ".ci/run runs them all" : wrong + " faults");
        if (wrong != 0) {
            System.exit(1);
        }
    }

    private static Map<String, String> wholeProject() {
        Map<String, String> files = new LinkedHashMap<>();
        files.put(CLASS, "public final class YearBook {\n}\n");
        files.put(OWN + "OneTest.java", test("OneTest", "One", 0));
        files.put(OWN + "TwoTest.java", test("TwoTest", "Two", 0));
        files.put(OWN + "Helper.java", "final class Helper {\n}\n");
        files.put(SHARED + "Three.java", test("Three", "Three", 0));
        files.put(SHARED + "deeper/Four.java", test("Four", "Four", 0));
        return files;
    }

    private static String test(String name, String says, int exit) {
        return "public final class " + name + " {\n    public static void main(String[] args) {\n"
            + "        new YearBook();\n        System.out.println(\"" + says + " is run\");\n"
            + "        System.exit(" + exit + ");\n    }\n}\n";
    }

    private static Map<String, String> with(Map<String, String> files, String name, String text) {
        Map<String, String> others = new LinkedHashMap<>(files);
        others.put(name, text);
        return others;
    }

    private static Map<String, String> without(Map<String, String> files, String folder) {
        Map<String, String> others = new LinkedHashMap<>(files);
        others.keySet().removeIf(name -> name.startsWith(folder));
        return others;
    }

    private static void expect(String what, int exit, Map<String, String> files, String... run)
            throws IOException, InterruptedException {
        Path root = Files.createTempDirectory("runall");
        try {
            for (Map.Entry<String, String> file : files.entrySet()) {
                Path path = root.resolve(file.getKey());
                Files.createDirectories(path.getParent());
                Files.writeString(path, file.getValue());
            }
            Files.createDirectories(root.resolve("main/.ci"));
            Path script = Files.copy(Path.of(".ci/run"), root.resolve("main/.ci/run"));
            Process p = new ProcessBuilder("bash", script.toString()).directory(root.toFile())
                .redirectErrorStream(true).start();
            String said = new String(p.getInputStream().readAllBytes());
            check(what, exit, p.waitFor(), List.of(run), said);
        } finally {
            delete(root);
        }
    }

    private static void check(String what, int due, int got, List<String> run, String said) {
        boolean asDue = due == got;
        for (String test : List.of("One", "Two", "Three", "Four")) {
            asDue &= run.contains(test) == said.contains(test + " is run");
        }
        if (!asDue) {
            wrong++;
            System.out.println(what + ": .ci/run ended with " + got + ", due are " + due + " and " + run + "; it said\n" + said);
        }
    }

    private static void delete(Path root) throws IOException {
        try (Stream<Path> parts = Files.walk(root)) {
            for (Path part : parts.sorted(Comparator.reverseOrder()).toList()) {
                Files.delete(part);
            }
        }
    }
}
