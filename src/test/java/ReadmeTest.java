import java.io.IOException;
import java.lang.reflect.Method;
import java.lang.reflect.Modifier;
import java.net.URI;
import java.net.URL;
import java.net.URLClassLoader;
import java.nio.file.Files;
import java.nio.file.Path;
import java.util.ArrayList;
import java.util.Comparator;
import java.util.List;
import java.util.Set;
import java.util.TreeSet;
import java.util.regex.Matcher;
import java.util.regex.Pattern;
import java.util.stream.Stream;
import javax.tools.ToolProvider;

/** What README.md shows of the class compiles and answers as it says; it names every call, constant and test. */
public final class ReadmeTest extends Expecting {
    private static final Path README = Path.of("README.md");
    private static final Path TESTS = Path.of("src/test/java");
    private static final String NEW = "ShapeBetween s = new ShapeBetween();";
    /** A line of use: a name for the answer or none, the call, the answer, and perhaps a word on it. */
    private static final Pattern USE = Pattern.compile("(int \\w+ = )?(s\\.(\\w+)\\([^;]*\\)); +// (-?\\d+|[A-Z]+)(: .+)?");

    private static int answers = 0;

    public static void main(String[] args) throws Exception {
        String readme = Files.readString(README);
        use(blocks(readme, "java"));
        expect(answers > 0, "README.md shows nothing");
        names(readme);
        tests(readme);
        end(answers + " lines of README.md answer as it says");
    }

    /** Called by what is made of README.md's lines. */
    public static void due(String line, int got, int want) {
        answers++;
        expect(got == want, line + " answered " + got);
    }

    private static List<String> blocks(String readme, String language) {
        List<String> blocks = new ArrayList<>();
        Matcher m = Pattern.compile("(?s)```" + language + "\\n(.*?)```").matcher(readme);
        while (m.find()) {
            blocks.add(m.group(1));
        }
        return blocks;
    }

    private static void use(List<String> blocks) throws Exception {
        StringBuilder code = new StringBuilder("public final class Use {\n    public static void all() {\n");
        Set<String> shown = new TreeSet<>();
        for (String block : blocks) {
            code.append("{\n");
            for (String line : block.split("\n")) {
                code.append(asCode(line, shown)).append('\n');
            }
            code.append("}\n");
        }
        runIt(code.append("    }\n}\n").toString());
        for (Method m : ShapeBetween.class.getDeclaredMethods()) {
            boolean hidden = !Modifier.isPublic(m.getModifiers());
            expect(hidden || shown.contains(m.getName()), "README.md does not show " + m.getName());
        }
    }

    private static String asCode(String line, Set<String> shown) {
        if (line.equals(NEW)) {
            return line;
        }
        Matcher m = USE.matcher(line);
        if (!m.matches()) {
            expect(false, "README.md has a line without an answer: " + line);
            return "";
        }
        shown.add(m.group(3));
        String want = m.group(4).matches("[A-Z]+") ? "ShapeBetween." + m.group(4) : m.group(4);
        boolean named = m.group(1) != null;
        String got = named ? m.group(1).split(" ")[1] : m.group(2);
        return (named ? m.group(1) + m.group(2) + "; " : "")
                + "ReadmeTest.due(\"" + line.trim() + "\", " + got + ", " + want + ");";
    }

    private static void runIt(String code) throws Exception {
        Path folder = Files.createTempDirectory("readme");
        try {
            Path source = Files.writeString(folder.resolve("Use.java"), code);
            int failed = ToolProvider.getSystemJavaCompiler().run(null, null, null, "-d", folder.toString(),
                    "-cp", System.getProperty("java.class.path"), source.toString());
            expect(failed == 0, "what README.md shows does not compile");
            if (failed == 0) {
                URI place = folder.toUri();
                try (URLClassLoader loader = new URLClassLoader(new URL[] {place.toURL()})) {
                    loader.loadClass("Use").getMethod("all").invoke(null);
                }
            }
        } finally {
            remove(folder);
        }
    }

    private static void remove(Path folder) throws IOException {
        try (Stream<Path> all = Files.walk(folder)) {
            for (Path path : all.sorted(Comparator.reverseOrder()).toList()) {
                Files.delete(path);
            }
        }
    }

    private static void names(String readme) {
        String[] constants = {"NONE", "BAD", "STATE", "FULL"};
        int[] values = {ShapeBetween.NONE, ShapeBetween.BAD, ShapeBetween.STATE, ShapeBetween.FULL};
        for (int i = 0; i < constants.length; i++) {
            expect(readme.contains("| " + values[i] + " | `" + constants[i] + "` |"), "README.md on " + constants[i]);
        }
    }

    /** README.md names each test there is, and none that there is not; what it says to run can be run. */
    private static void tests(String readme) throws IOException {
        Set<String> told = new TreeSet<>();
        Matcher m = Pattern.compile("`(\\w+Test)`").matcher(readme);
        while (m.find()) {
            told.add(m.group(1));
        }
        Set<String> has = new TreeSet<>();
        try (Stream<Path> files = Files.list(TESTS)) {
            for (Path file : files.toList()) {
                has.add(file.getFileName().toString().replace(".java", ""));
            }
        }
        expect(told.equals(has), "README.md names " + told + ", there are " + has);
        List<String> commands = blocks(readme, "sh");
        expect(commands.contains(".ci/run\n") && Files.isExecutable(Path.of(".ci/run")), "README.md on running the tests");
        for (Path path : List.of(Path.of("src/test/support/Boundary.java"), Path.of("src/main/java/ShapeBetween.java"))) {
            expect(readme.contains("`" + path + "`") && Files.exists(path), "README.md on " + path);
        }
    }
}
