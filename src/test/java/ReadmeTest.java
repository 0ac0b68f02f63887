import java.io.ByteArrayOutputStream;
import java.io.IOException;
import java.io.PrintStream;
import java.lang.reflect.Method;
import java.lang.reflect.Modifier;
import java.net.URL;
import java.net.URLClassLoader;
import java.nio.charset.StandardCharsets;
import java.nio.file.Files;
import java.nio.file.Path;
import java.util.Comparator;
import java.util.List;
import java.util.Set;
import java.util.TreeSet;
import java.util.regex.Matcher;
import java.util.regex.Pattern;
import java.util.stream.Stream;
import javax.tools.JavaCompiler;
import javax.tools.ToolProvider;

/** README.md's program is compiled and run, each call asked for the answer that its comment shows. */
public final class ReadmeTest {
    private static final Path README = Path.of("README.md");
    private static final Pattern SHOWN =
            Pattern.compile("(\\s*)((?:house\\.\\w+|take)\\(.*\\));\\s*// ([\\w.-]+)(?:[:,].*)?");
    private static final Pattern ASKS = Pattern.compile("^\\s*(house\\.\\w+|take)\\(");

    // Kept, as what the program prints is taken in another stream.
    private static final PrintStream SAY = System.out;

    private static int passed = 0;
    private static int failed = 0;

    private ReadmeTest() {
    }

    public static void main(String[] args) throws Exception {
        String page = Files.readString(README);
        runExample(page);
        namesOfCalls(page);
        namesOfTests(page);
        SAY.println(passed + " passed, " + failed + " failed");
        if (failed != 0) {
            System.exit(1);
        }
    }

    private static void good(String what, boolean holds) {
        if (holds) {
            passed++;
        } else {
            failed++;
            SAY.println("README.md does not hold: " + what);
        }
    }

    /** Called from the program that is made of README.md's. */
    public static void due(String call, long got, long want) {
        good(call + " answered " + got + ", shown is " + want, got == want);
    }

    // ---- the program

    private static void runExample(String page) throws Exception {
        Matcher block = Pattern.compile("(?s)```java\\n(.*?)```").matcher(page);
        if (!block.find()) {
            good("it shows a program", false);
            return;
        }
        Path folder = Files.createTempDirectory("readme");
        try {
            Path source = folder.resolve("Example.java");
            Files.writeString(source, askingForAnswers(block.group(1)));
            String printed = compiles(source, folder) ? runMain(folder) : "nothing";
            good("the program prints what it says, and not " + printed,
                    page.contains("It prints `" + printed + "`."));
        } finally {
            remove(folder);
        }
    }

    private static String askingForAnswers(String program) {
        StringBuilder asking = new StringBuilder();
        int calls = 0;
        for (String line : program.split("\n")) {
            Matcher shown = SHOWN.matcher(line);
            boolean shows = shown.matches();
            good("an answer stands behind " + line.strip(), shows || !ASKS.matcher(line).find());
            if (shows) {
                calls++;
                asking.append(shown.group(1)).append("ReadmeTest.due(\"").append(shown.group(2)).append("\", ")
                        .append(shown.group(2)).append(", ").append(shown.group(3)).append(");\n");
            } else {
                asking.append(line).append('\n');
            }
        }
        good("calls are shown", calls > 0);
        return asking.toString();
    }

    private static boolean compiles(Path source, Path folder) {
        JavaCompiler compiler = ToolProvider.getSystemJavaCompiler();
        boolean done = compiler != null && compiler.run(null, null, null, "--release", "17", "-nowarn",
                "-cp", System.getProperty("java.class.path"), "-d", folder.toString(), source.toString()) == 0;
        good("the program compiles", done);
        return done;
    }

    private static String runMain(Path folder) throws Exception {
        ByteArrayOutputStream printed = new ByteArrayOutputStream();
        try (URLClassLoader loader = new URLClassLoader(new URL[] {folder.toUri().toURL()})) {
            System.setOut(new PrintStream(printed, true, StandardCharsets.UTF_8));
            loader.loadClass("Example").getMethod("main", String[].class).invoke(null, (Object) new String[0]);
        } finally {
            System.setOut(SAY);
        }
        return printed.toString(StandardCharsets.UTF_8).strip();
    }

    private static void remove(Path folder) throws IOException {
        try (Stream<Path> paths = Files.walk(folder)) {
            for (Path path : paths.sorted(Comparator.reverseOrder()).toList()) {
                Files.delete(path);
            }
        }
    }

    // ---- the names

    private static void namesOfCalls(String page) {
        for (Method method : ColdHouse.class.getDeclaredMethods()) {
            if (Modifier.isPublic(method.getModifiers())) {
                good("it tells of " + method.getName(), Pattern.compile("`" + method.getName() + "\\([^`]*\\)`")
                        .matcher(page).find());
            }
        }
    }

    private static void namesOfTests(String page) throws IOException {
        Set<String> there = new TreeSet<>();
        for (String folder : List.of("src/test/java", "src/test/support")) {
            try (Stream<Path> files = Files.list(Path.of(folder))) {
                files.forEach(file -> there.add(folder + "/" + file.getFileName()));
            }
        }
        Set<String> told = new TreeSet<>();
        Matcher names = Pattern.compile("`(src/test/[\\w/]+\\.java)`").matcher(page);
        for (int from = 0; names.find(from); from = names.end()) {
            told.add(names.group(1));
        }
        good("it names the tests there are: " + there + ", not " + told, told.equals(there));
    }
}
