import java.io.PrintWriter;
import java.io.StringWriter;
import java.util.ArrayList;
import java.util.HashMap;
import java.util.List;
import java.util.Map;
import java.util.Set;
import java.util.TreeMap;
import java.util.TreeSet;
import java.util.regex.Matcher;
import java.util.regex.Pattern;
import java.util.spi.ToolProvider;

/** What can be seen of LANGUAGE.md from the compiled class: the library, recursion, how deep calls go, what is made. */
public final class BytecodeTest extends Expecting {
    /** What LANGUAGE.md rule 4 lists for numbers and arrays of them; the class has no texts and no lists. */
    private static final Pattern LIBRARY = Pattern.compile("java/lang/Object\\.\"<init>\"|java/lang/System\\.arraycopy"
            + "|java/lang/(Math|Integer|Long)\\.(?!\\w+Exact$)\\w+|java/util/Arrays\\.(copyOf|copyOfRange|fill)");
    private static final int DEEPEST = 8;
    private static final Pattern HEAD = Pattern.compile("  (?:[\\w ]+ )?([\\w$]+)\\([^)]*\\);");
    private static final Pattern CALL = Pattern.compile("\\binvoke(\\w+) .*// (?:Interface)?Method ([^:]+):.*");
    private static final Pattern MADE = Pattern.compile("\\d+: (new|newarray|anewarray|multianewarray)\\b.*");

    public static void main(String[] args) {
        Map<String, Set<String>> calls = new TreeMap<>();
        read(ShapeBetween.class.getName(), calls);
        for (Class<?> c : ShapeBetween.class.getDeclaredClasses()) {
            read(c.getName(), calls);
        }
        expect(calls.containsKey("ShapeBetween.status"), "the class could not be read");
        int deepest = 0;
        Map<String, Integer> depths = new HashMap<>();
        for (String method : calls.keySet()) {
            deepest = Math.max(deepest, depth(method, calls, depths, new ArrayList<>()));
        }
        expect(deepest <= DEEPEST, "rule 11: calls go " + deepest + " deep");
        end("calls go " + deepest + " deep at most");
    }

    private static String told(String name) {
        StringWriter text = new StringWriter();
        PrintWriter out = new PrintWriter(text);
        ToolProvider javap = ToolProvider.findFirst("javap").orElseThrow();
        javap.run(out, out, "-p", "-c", "-cp", System.getProperty("java.class.path"), name);
        return text.toString();
    }

    /** Notes whom each method calls; a call without a class's name is one of the same class. */
    private static void read(String name, Map<String, Set<String>> calls) {
        String method = "";
        for (String line : told(name).split("\\R")) {
            Matcher head = HEAD.matcher(line);
            if (head.matches()) {
                boolean constructor = head.group(1).equals(name);
                method = name + "." + (constructor ? "\"<init>\"" : head.group(1));
                calls.putIfAbsent(method, new TreeSet<>());
            }
            Matcher call = CALL.matcher(line);
            if (call.find()) {
                String whom = call.group(2).contains(".") ? call.group(2) : name + "." + call.group(2);
                boolean own = whom.startsWith("ShapeBetween");
                expect(own || LIBRARY.matcher(whom).matches(), "rule 4: " + method + " calls " + whom);
                if (own) {
                    calls.get(method).add(whom);
                }
            }
            expect(!line.contains("invokedynamic"), "rules 2, 10: " + method + " has a lambda or joins texts by +");
            boolean making = MADE.matcher(line.trim()).matches();
            expect(!making || method.endsWith("\"<init>\""), "NOTES: " + method + " makes an object");
        }
    }

    private static int depth(String method, Map<String, Set<String>> calls, Map<String, Integer> known, List<String> open) {
        if (open.contains(method)) {
            expect(false, "rule 8, NOTES: " + method + " comes back to itself");
            return 0;
        }
        if (known.containsKey(method)) {
            return known.get(method);
        }
        open.add(method);
        int below = 0;
        expect(calls.containsKey(method), "no such method: " + method);
        for (String next : calls.getOrDefault(method, Set.of())) {
            below = Math.max(below, depth(next, calls, known, open));
        }
        open.remove(method);
        known.put(method, below + 1);
        return below + 1;
    }
}
