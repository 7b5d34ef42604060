import java.io.IOException;
import java.lang.reflect.Constructor;
import java.lang.reflect.Field;
import java.lang.reflect.Method;
import java.lang.reflect.Modifier;
import java.nio.file.Files;
import java.nio.file.Path;
import java.util.ArrayList;
import java.util.List;
import java.util.Set;
import java.util.TreeSet;
import java.util.regex.Matcher;
import java.util.regex.Pattern;
import java.util.stream.Stream;

/** The document's public face, held against the class, and its promises, each of which must have tests. */
public final class DocumentTest extends Expecting {
    private static final Path DOCUMENT = Path.of("../shared/DOC.md");
    private static final Path SOURCE = Path.of("src/main/java/ShapeBetween.java");
    private static final Path TESTS = Path.of("src/test/java");
    private static final int PROMISES = 28;

    public static void main(String[] args) throws IOException, IllegalAccessException {
        String document = Files.readString(DOCUMENT);
        String face = first(document, "(?s)## The public face\\s+```java\\n(.*?)```");
        theClass(face);
        theConstants(face);
        theMethods(face);
        thePromises(document, face);
        theHeadings(document, Files.readString(SOURCE));
        end("the class has the document's face");
    }

    private static String first(String text, String pattern) {
        Matcher m = Pattern.compile(pattern).matcher(text);
        boolean found = m.find();
        expect(found, "nowhere is there " + pattern);
        return found ? m.group(1) : "";
    }

    private static List<String> all(String text, String pattern) {
        List<String> found = new ArrayList<>();
        Matcher m = Pattern.compile(pattern).matcher(text);
        while (m.find()) {
            found.add(m.group(1));
        }
        return found;
    }

    private static void theClass(String face) {
        Class<?> c = ShapeBetween.class;
        expect(face.contains("public final class " + c.getName() + " {"), "the class: " + c);
        expect(c.getModifiers() == (Modifier.PUBLIC | Modifier.FINAL), "the class is public and final");
        expect(c.getSuperclass() == Object.class && c.getInterfaces().length == 0, "the class is of no other");
        Constructor<?>[] made = c.getDeclaredConstructors();
        expect(face.contains("public ShapeBetween();"), "the constructor");
        expect(made.length == 1 && made[0].getModifiers() == Modifier.PUBLIC && made[0].getParameterCount() == 0,
                "the one constructor is public and takes nothing");
    }

    private static void theConstants(String face) throws IllegalAccessException {
        Set<String> told = new TreeSet<>();
        for (String constant : first(face, "public static final int ([^;]+);").split(",\\s*")) {
            told.add("public static final int " + constant.trim());
        }
        Set<String> has = new TreeSet<>();
        for (Field f : ShapeBetween.class.getDeclaredFields()) {
            if (!Modifier.isPrivate(f.getModifiers())) {
                f.setAccessible(true);
                has.add(Modifier.toString(f.getModifiers()) + " " + f.getType() + " " + f.getName() + " = "
                        + (Modifier.isStatic(f.getModifiers()) ? f.get(null) : "?"));
            }
        }
        expect(has.equals(told), "the constants are " + has + ", told are " + told);
    }

    private static void theMethods(String face) {
        Set<String> told = new TreeSet<>();
        for (String method : all(face, "(public int \\w+\\([^)]*\\));")) {
            told.add(method.replaceAll("int \\w+(?=[,)])", "int"));
        }
        Set<String> has = new TreeSet<>();
        for (Method m : ShapeBetween.class.getDeclaredMethods()) {
            if (!Modifier.isPrivate(m.getModifiers())) {
                has.add(signature(m));
            }
        }
        expect(told.size() == 27, "the face has " + told.size() + " methods");
        expect(has.equals(told), "the methods are " + has + ", told are " + told);
    }

    private static String signature(Method m) {
        List<String> parameters = new ArrayList<>();
        for (Class<?> parameter : m.getParameterTypes()) {
            parameters.add(parameter.getName());
        }
        return Modifier.toString(m.getModifiers()) + " " + m.getReturnType() + " " + m.getName()
                + "(" + String.join(", ", parameters) + ")";
    }

    /** Each promise but the first tells one call of the face; each has a test method that bears its number. */
    private static void thePromises(String document, String face) throws IOException {
        List<String> numbers = all(document, "## Promise (\\d+):");
        expect(numbers.size() == PROMISES, "there are " + numbers.size() + " promises");
        for (String call : all(document, "## Promise \\d+: \\w+\\s+`(int \\w+\\([^)]*\\))`:")) {
            expect(face.contains("public " + call + ";"), "the face has no " + call);
        }
        String tests = allTests();
        for (String number : numbers) {
            String name = "static void promise" + (number.length() == 1 ? "0" : "") + number;
            expect(tests.contains(name), "promise " + number + " has no test");
        }
    }

    private static String allTests() throws IOException {
        StringBuilder tests = new StringBuilder();
        try (Stream<Path> files = Files.list(TESTS)) {
            for (Path file : files.sorted().toList()) {
                tests.append(Files.readString(file));
            }
        }
        return tests.toString();
    }

    /** "Ahead of the calls .. the interface says: ---- ..": the class says so, too. */
    private static void theHeadings(String document, String source) {
        Matcher told = Pattern.compile("Ahead of the calls (.*?) the interface says: ---- (.*?)\\.\\n").matcher(document);
        int headings = 0;
        while (told.find()) {
            headings++;
            String part = first(source, "(?s)// ---- " + Pattern.quote(told.group(2)) + "\\n(.*?)// ----");
            List<String> calls = all(part, "    public int (\\w+)\\(");
            expect(calls.equals(all(told.group(1), "`(\\w+)`")), "behind " + told.group(2) + " come " + calls);
        }
        expect(headings == 5, "there are " + headings + " headings");
    }
}
