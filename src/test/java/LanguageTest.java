import java.io.IOException;
import java.lang.reflect.Field;
import java.lang.reflect.Method;
import java.lang.reflect.Modifier;
import java.nio.file.Files;
import java.nio.file.Path;
import java.util.ArrayList;
import java.util.HashSet;
import java.util.List;
import java.util.Set;
import java.util.TreeSet;
import java.util.regex.Matcher;
import java.util.regex.Pattern;

/** What can be seen of LANGUAGE.md from the class and its source: the face, the shapes, the words. */
public final class LanguageTest {
    private static final Path SOURCE = Path.of("src/main/java/ShapeBetween.java");
    /** The document's methods, each with how many ints it takes. */
    private static final String[] FACE = {"sheet/3", "set/3", "copy/5", "drop/1", "mark/4", "move/4", "at/4", "third/3",
        "told/2", "folds/2", "first/2", "sides/1", "key/2", "eased/1", "unkey/0", "in/4", "from/5", "picture/5",
        "seen/4", "pairs/5", "pair/5", "kind/1", "as/2", "ask/2", "trace/1", "count/1", "status/0"};
    private static final String[] WORDS = {"throw", "throws", "try", "catch", "finally", "synchronized", "assert",
        "import", "package", "var", "protected", "native", "volatile", "transient", "equals", "hashCode", "toString",
        "System\\s*\\.\\s*(?!arraycopy)", "->", "::", "static\\s*\\{"};

    private static int wrong = 0;

    public static void main(String[] args) throws IOException {
        face();
        classes();
        words(Files.readString(SOURCE));
        lengths(Files.readString(SOURCE));
        System.out.println(wrong == 0 ? "the rules that can be seen are kept" : wrong + " rules are not kept");
        if (wrong != 0) {
            System.exit(1);
        }
    }

    private static void expect(boolean kept, String rule) {
        if (!kept) {
            wrong++;
            System.out.println(rule);
        }
    }

    private static void face() {
        Class<?> face = ShapeBetween.class;
        expect(face.getModifiers() == (Modifier.PUBLIC | Modifier.FINAL), "rule 1: the class is public and final");
        Set<String> methods = new TreeSet<>();
        Set<String> publicNames = new HashSet<>();
        for (Method m : face.getDeclaredMethods()) {
            if (Modifier.isPublic(m.getModifiers())) {
                methods.add(m.getName() + "/" + m.getParameterCount());
                publicNames.add(m.getName());
                expect(m.getReturnType() == int.class && !Modifier.isStatic(m.getModifiers()), "the face: " + m);
                for (Class<?> parameter : m.getParameterTypes()) {
                    expect(parameter == int.class, "the face: " + m);
                }
            }
        }
        expect(methods.equals(new TreeSet<>(List.of(FACE))), "rule 1: the public methods are " + methods);
        for (Class<?> c : allClasses()) {
            for (Method m : c.getDeclaredMethods()) {
                boolean own = c == face && Modifier.isPublic(m.getModifiers());
                expect(own || !publicNames.contains(m.getName()), "rule 1: a second " + m.getName());
                expect(own || c != face || Modifier.isPrivate(m.getModifiers()), "rule 1: " + m + " is not private");
            }
        }
        Set<String> constants = new TreeSet<>();
        for (Field f : face.getDeclaredFields()) {
            if (!Modifier.isPrivate(f.getModifiers())) {
                constants.add(f.getName());
            }
        }
        expect(constants.equals(new TreeSet<>(List.of("NONE", "BAD", "STATE", "FULL"))), "rule 1: " + constants);
        expect(face.getDeclaredConstructors().length == 1 && face.getConstructors().length == 1, "rule 1: constructors");
    }

    private static List<Class<?>> allClasses() {
        List<Class<?>> all = new ArrayList<>(List.of(ShapeBetween.class.getDeclaredClasses()));
        all.add(ShapeBetween.class);
        return all;
    }

    private static void classes() {
        expect(allClasses().size() <= 12, "rule 11: too many classes");
        for (Class<?> c : allClasses()) {
            expect(c == ShapeBetween.class || Modifier.isStatic(c.getModifiers()), "rule 2: " + c + " is not static");
            expect(c == ShapeBetween.class || !Modifier.isPublic(c.getModifiers()), "rule 1: " + c + " is public");
            int fields = 0;
            for (Field f : c.getDeclaredFields()) {
                boolean constant = Modifier.isStatic(f.getModifiers());
                fields += constant ? 0 : 1;
                expect(!constant || Modifier.isFinal(f.getModifiers()), "rule 5: " + f + " is not final");
                expect(!constant || f.getType() == int.class, "rule 5: " + f + " is no number");
            }
            expect(fields <= 20, "rule 11: too many fields in " + c);
            for (Method m : c.getDeclaredMethods()) {
                expect(m.getParameterCount() <= 7, "rule 11: too many parameters: " + m);
            }
        }
    }

    private static void words(String source) {
        String code = source.replaceAll("(?s)/\\*.*?\\*/", " ").replaceAll("//[^\n]*", " ");
        for (String word : WORDS) {
            String pattern = word.matches("\\w+") ? "\\b" + word + "\\b" : word;
            Matcher m = Pattern.compile(pattern).matcher(code);
            expect(!m.find(), "rules 2 to 6: the source has " + word);
        }
        for (int i = 0; i < source.length(); i++) {
            expect(source.charAt(i) < 128, "rule 4: a sign beyond 127 at " + i);
        }
    }

    /** Every method ends with a brace of its own, four or eight blanks in. */
    private static void lengths(String source) {
        int lines = 0;
        for (String line : source.split("\n")) {
            lines = line.matches("( {4}| {8})\\}") ? 0 : lines + 1;
            expect(lines <= 60, "rule 11: a long method at " + line);
        }
    }
}
