import java.io.IOException;
import java.io.PrintWriter;
import java.io.StringWriter;
import java.lang.reflect.Method;
import java.lang.reflect.Modifier;
import java.net.URL;
import java.net.URLClassLoader;
import java.nio.file.Files;
import java.nio.file.Path;
import java.util.ArrayList;
import java.util.Comparator;
import java.util.List;
import java.util.regex.Matcher;
import java.util.regex.Pattern;
import java.util.stream.Stream;
import java.util.spi.ToolProvider;

/** README.md: the use that it shows is what the class answers, and what it names is there. */
public final class ReadmeTest {
    private static final Path README = Path.of("README.md");
    private static final Path TESTS = Path.of("src/test/java");
    private static final Path SCRIPT = Path.of(".ci/run");
    private static final Pattern SHOWN = Pattern.compile("(?s)```java\n(.*?)```");
    private static final Pattern CALL = Pattern.compile("(x\\.\\w+\\(.*\\)); +// (-?\\d+|BAD|NO|NONE|FULL): .+");
    private static final Pattern NAMED = Pattern.compile("`(src/[^`*]+)`");

    private final Checks checks = new Checks();
    private final String page;

    private ReadmeTest(String page) {
        this.page = page;
    }

    public static void main(String[] args) throws Exception {
        ReadmeTest test = new ReadmeTest(Files.readString(README).replace("\r", ""));
        test.everyCallIsShown();
        test.shownCallsAnswerSo();
        test.namedFilesAreThere();
        test.testsAreNamed();
        test.scriptCanBeRun();
        test.checks.end();
    }

    /** The lines of the page that are Java. */
    private String shown() {
        Matcher block = SHOWN.matcher(page);
        return block.find() ? block.group(1) : "";
    }

    private void everyCallIsShown() {
        for (Method method : BallsInAir.class.getDeclaredMethods()) {
            if (Modifier.isPublic(method.getModifiers())) {
                checks.holds(method.getName() + " is shown", shown().contains("x." + method.getName() + "("));
            }
        }
    }

    private void shownCallsAnswerSo() throws Exception {
        Path place = Files.createTempDirectory("readme");
        try {
            Path source = place.resolve("Shown.java");
            Files.writeString(source, programOf(shown()));
            if (compiles(source, place)) {
                run(place);
            }
        } finally {
            remove(place);
        }
    }

    /** The lines as they stand, each call with an answer made one that notes what it answered and what is told. */
    private String programOf(String lines) {
        StringBuilder program = new StringBuilder("public final class Shown {\n");
        program.append("static final int BAD = -1, NO = -2, FULL = -3, NONE = -4;\n");
        program.append("public static void main(java.util.List<Object[]> notes) {\n");
        for (String line : lines.split("\n")) {
            Matcher call = CALL.matcher(line);
            if (call.matches()) {
                String told = call.group(1).replace("\"", "\\\"");
                program.append("notes.add(new Object[] {\"" + told + "\", (long) " + call.group(1) + ", (long) "
                        + call.group(2) + "});\n");
            } else {
                checks.holds("an answer stands behind: " + line, !line.startsWith("x."));
                program.append(line).append('\n');
            }
        }
        return program.append("}\n}\n").toString();
    }

    private boolean compiles(Path source, Path place) {
        StringWriter said = new StringWriter();
        int failed = ToolProvider.findFirst("javac").orElseThrow().run(new PrintWriter(said), new PrintWriter(said),
                "-cp", System.getProperty("java.class.path"), "-d", place.toString(), source.toString());
        checks.holds("what the page shows compiles: " + said, failed == 0);
        return failed == 0;
    }

    private void run(Path place) throws Exception {
        List<Object[]> notes = new ArrayList<>();
        try (URLClassLoader loader = new URLClassLoader(new URL[] {place.toUri().toURL()})) {
            loader.loadClass("Shown").getMethod("main", List.class).invoke(null, notes);
        }
        checks.holds("some calls are shown, 512 at most", notes.size() > 0 && notes.size() <= 512);
        for (Object[] note : notes) {
            checks.same("README.md: " + note[0], (Long) note[1], (Long) note[2]);
        }
    }

    private static void remove(Path place) throws IOException {
        try (Stream<Path> inside = Files.walk(place)) {
            for (Path one : inside.sorted(Comparator.reverseOrder()).toList()) {
                Files.delete(one);
            }
        }
    }

    private void namedFilesAreThere() {
        Matcher named = NAMED.matcher(page);
        while (named.find()) {
            checks.holds(named.group(1) + " is there", Files.isRegularFile(Path.of(named.group(1))));
        }
    }

    private void testsAreNamed() throws IOException {
        try (Stream<Path> tests = Files.list(TESTS)) {
            for (Path test : tests.toList()) {
                String name = "src/test/java/" + test.getFileName();
                checks.holds(name + " is named", !name.endsWith(".java") || page.contains("`" + name + "`"));
            }
        }
    }

    private void scriptCanBeRun() {
        checks.holds(".ci/run is named", page.contains("\n" + SCRIPT + "\n"));
        checks.holds(".ci/run can be run", Files.isExecutable(SCRIPT));
    }
}
