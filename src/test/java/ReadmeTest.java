import java.io.IOException;
import java.lang.reflect.Method;
import java.lang.reflect.Modifier;
import java.net.URL;
import java.net.URLClassLoader;
import java.nio.file.Files;
import java.nio.file.Path;
import java.util.ArrayList;
import java.util.Comparator;
import java.util.List;
import java.util.Set;
import java.util.TreeSet;
import java.util.regex.Matcher;
import java.util.regex.Pattern;
import java.util.stream.Stream;
import javax.tools.JavaCompiler;
import javax.tools.ToolProvider;

/** What README.md says is so: its example answers as it says, its list of tests is whole, its commands work. */
public final class ReadmeTest {
    private static final String RUN_ALL = ".ci/run";
    private static final Path TESTS = Path.of("src/test/java");
    private static final Pattern CALL =
        Pattern.compile("(?:(?:int|boolean) (\\w+) = )?(book\\.(\\w+)\\([^;]*\\)); +// (.*)");
    private static final Pattern ANSWER =
        Pattern.compile("(-?\\d+|NONE|true|false|throws (\\w+))(?:: .*)?");
    private static int wrong;

    public static void main(String[] args) throws Exception {
        List<String> lines = Files.readAllLines(Path.of("README.md"));
        List<String> example = example(lines);
        checkAllCallsAreIn(example);
        runExample(example);
        checkTestsNamed(String.join("\n", lines));
        checkRunAll(lines);
        runCommands(lines);
        System.out.println(wrong == 0 ? "README.md is as it says" : wrong + " faults");
        if (wrong != 0) {
            System.exit(1);
        }
    }

    private static void fault(String text) {
        wrong++;
        System.out.println(text);
    }

    /** The program of the example, compiled apart, tells what is not as its comments say. */
    public static void due(String row, Object got, Object want) {
        if (!want.equals(got)) {
            fault("README's example: " + row.trim() + " -- but it answers " + got);
        }
    }

    private static List<String> example(List<String> lines) {
        List<String> rows = new ArrayList<>();
        boolean inside = false;
        for (String line : lines) {
            if (line.startsWith("```")) {
                inside = line.equals("```java");
            } else if (inside) {
                rows.add(line);
            }
        }
        return rows;
    }

    private static void checkAllCallsAreIn(List<String> example) {
        Set<String> missing = new TreeSet<>();
        for (Method m : YearBook.class.getDeclaredMethods()) {
            if (Modifier.isPublic(m.getModifiers())) {
                missing.add(m.getName());
            }
        }
        for (String row : example) {
            Matcher call = CALL.matcher(row);
            if (call.matches()) {
                missing.remove(call.group(3));
            }
        }
        if (!missing.isEmpty()) {
            fault("README's example has no " + missing);
        }
    }

    private static void runExample(List<String> example) throws Exception {
        StringBuilder program = new StringBuilder("public final class Example {\n    public static void run() {\n");
        for (String row : example) {
            program.append(checked(row)).append('\n');
        }
        program.append("    }\n}\n");
        Path folder = Files.createTempDirectory("readme");
        try {
            Path source = Files.writeString(folder.resolve("Example.java"), program.toString());
            JavaCompiler compiler = ToolProvider.getSystemJavaCompiler();
            String classes = System.getProperty("java.class.path");
            if (compiler.run(null, null, null, "-cp", classes, "-d", folder.toString(), source.toString()) != 0) {
                fault("README's example does not compile");
                return;
            }
            try (URLClassLoader loader = new URLClassLoader(new URL[] {folder.toUri().toURL()})) {
                loader.loadClass("Example").getMethod("run").invoke(null);
            }
        } finally {
            delete(folder);
        }
    }

    /** The row as it stands in the program: with a look at what it answers, each call being made once. */
    private static String checked(String row) {
        if (row.isBlank() || row.startsWith("//") || row.equals("YearBook book = new YearBook();")) {
            return row;
        }
        Matcher call = CALL.matcher(row);
        Matcher answer = ANSWER.matcher(call.matches() ? call.group(4) : "");
        if (!answer.matches()) {
            fault("README's example does not say what this row answers: " + row);
            return row;
        }
        String kept = call.group(1);
        String due = "ReadmeTest.due(\"" + row + "\", " + (kept == null ? call.group(2) : kept) + ", ";
        if (answer.group(2) != null) {
            return "try { " + due + "\"an exception\"); } catch (java.util." + answer.group(2) + " e) { }";
        }
        String want = answer.group(1).equals("NONE") ? "YearBook.NONE" : answer.group(1);
        return (kept == null ? "" : row + "\n") + due + want + ");";
    }

    private static void delete(Path folder) throws IOException {
        try (Stream<Path> parts = Files.walk(folder)) {
            for (Path part : parts.sorted(Comparator.reverseOrder()).toList()) {
                Files.delete(part);
            }
        }
    }

    private static void checkTestsNamed(String readme) throws IOException {
        Set<String> named = new TreeSet<>();
        Matcher m = Pattern.compile("`(\\w+Test)`").matcher(readme);
        while (m.find()) {
            named.add(m.group(1));
        }
        Set<String> there = new TreeSet<>();
        try (Stream<Path> files = Files.walk(TESTS)) {
            for (Path file : files.filter(Files::isRegularFile).toList()) {
                String name = file.getFileName().toString();
                if (name.endsWith("Test.java")) {
                    there.add(name.substring(0, name.length() - ".java".length()));
                } else if (Files.readString(file).contains("void main(")) {
                    fault(file + " could be run, but is no *Test.java, which .ci/run looks for");
                }
                if (!file.getParent().equals(TESTS)) {
                    fault(file + " is not where .ci/run looks for it");
                }
            }
        }
        if (!named.equals(there)) {
            fault("README.md names the tests " + named + ", but there are " + there);
        }
    }

    private static void checkRunAll(List<String> lines) {
        if (!commands(lines).contains(RUN_ALL) || !Files.isExecutable(Path.of(RUN_ALL))) {
            fault("README.md does not say " + RUN_ALL + ", or it can not be run");
        }
    }

    private static List<String> commands(List<String> lines) {
        List<String> rows = new ArrayList<>();
        for (String line : lines.subList(lines.indexOf("## How to run its tests"), lines.size())) {
            if (line.startsWith("    ")) {
                rows.add(line.trim());
            }
        }
        return rows;
    }

    /** All but .ci/run, which runs this test; beside the checkout, so that what they make is not left in it. */
    private static void runCommands(List<String> lines) throws IOException, InterruptedException {
        Path folder = Files.createTempDirectory("readme");
        try {
            Files.createSymbolicLink(folder.resolve("src"), Path.of("src").toAbsolutePath());
            for (String command : commands(lines)) {
                if (!command.equals(RUN_ALL)) {
                    runCommand(command, folder);
                }
            }
        } finally {
            delete(folder);
        }
    }

    private static void runCommand(String command, Path folder) throws IOException, InterruptedException {
        Process p = new ProcessBuilder("bash", "-c", command).directory(folder.toFile())
            .redirectErrorStream(true).start();
        String said = new String(p.getInputStream().readAllBytes());
        if (p.waitFor() != 0) {
            fault("README.md's command " + command + " fails: " + said);
        }
    }
}
