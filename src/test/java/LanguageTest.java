import java.io.IOException;
import java.lang.reflect.Field;
import java.lang.reflect.Method;
import java.lang.reflect.Modifier;
import java.nio.file.Files;
import java.nio.file.Path;
import java.util.ArrayList;
import java.util.HashSet;
import java.util.List;
import java.util.Set;
import java.util.regex.Matcher;
import java.util.regex.Pattern;

/** What can be seen of LANGUAGE.md from the class and its source: the face, the shapes, the words. */
public final class LanguageTest extends Expecting {
    private static final Path SOURCE = Path.of("src/main/java/ShapeBetween.java");
    private static final String[] WORDS = {"throw", "throws", "try", "catch", "finally", "synchronized", "assert",
        "import", "package", "var", "protected", "native", "volatile", "transient", "equals", "hashCode", "toString",
        "System\\s*\\.\\s*(?!arraycopy)", "->", "::", "static\\s*\\{"};

    public static void main(String[] args) throws IOException {
        face();
        classes();
        words(Files.readString(SOURCE));
        lengths(Files.readString(SOURCE));
        end("the rules that can be seen are kept");
    }

    /** That the public members are just the document's is DocumentTest's. */
    private static void face() {
        Class<?> face = ShapeBetween.class;
        Set<String> publicNames = new HashSet<>();
        for (Method m : face.getDeclaredMethods()) {
            if (Modifier.isPublic(m.getModifiers())) {
                publicNames.add(m.getName());
            }
        }
        for (Class<?> c : allClasses()) {
            for (Method m : c.getDeclaredMethods()) {
                boolean own = c == face && Modifier.isPublic(m.getModifiers());
                expect(own || !publicNames.contains(m.getName()), "rule 1: a second " + m.getName());
                expect(own || c != face || Modifier.isPrivate(m.getModifiers()), "rule 1: " + m + " is not private");
            }
        }
        for (Field f : face.getDeclaredFields()) {
            boolean told = Modifier.isPublic(f.getModifiers());
            expect(told || Modifier.isPrivate(f.getModifiers()), "rule 1: " + f + " is not private");
        }
    }

    private static List<Class<?>> allClasses() {
        List<Class<?>> all = new ArrayList<>(List.of(ShapeBetween.class.getDeclaredClasses()));
        all.add(ShapeBetween.class);
        return all;
    }

    private static void classes() {
        expect(allClasses().size() <= 12, "rule 11: too many classes");
        for (Class<?> c : allClasses()) {
            expect(c == ShapeBetween.class || Modifier.isStatic(c.getModifiers()), "rule 2: " + c + " is not static");
            expect(c == ShapeBetween.class || !Modifier.isPublic(c.getModifiers()), "rule 1: " + c + " is public");
            int fields = 0;
            for (Field f : c.getDeclaredFields()) {
                boolean constant = Modifier.isStatic(f.getModifiers());
                fields += constant ? 0 : 1;
                expect(!constant || Modifier.isFinal(f.getModifiers()), "rule 5: " + f + " is not final");
                expect(!constant || f.getType() == int.class, "rule 5: " + f + " is no number");
            }
            expect(fields <= 20, "rule 11: too many fields in " + c);
            for (Method m : c.getDeclaredMethods()) {
                expect(m.getParameterCount() <= 7, "rule 11: too many parameters: " + m);
            }
        }
    }

    private static void words(String source) {
        String code = source.replaceAll("(?s)/\\*.*?\\*/", " ").replaceAll("//[^\n]*", " ");
        for (String word : WORDS) {
            String pattern = word.matches("\\w+") ? "\\b" + word + "\\b" : word;
            Matcher m = Pattern.compile(pattern).matcher(code);
            expect(!m.find(), "rules 2 to 6: the source has " + word);
        }
        for (int i = 0; i < source.length(); i++) {
            expect(source.charAt(i) < 128, "rule 4: a sign beyond 127 at " + i);
        }
    }

    /** Every method ends with a brace of its own, four or eight blanks in. */
    private static void lengths(String source) {
        int lines = 0;
        for (String line : source.split("\n")) {
            lines = line.matches("( {4}| {8})\\}") ? 0 : lines + 1;
            expect(lines <= 60, "rule 11: a long method at " + line);
        }
    }
}
