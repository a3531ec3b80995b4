import java.io.PrintWriter;
import java.io.StringWriter;
import java.util.ArrayList;
import java.util.LinkedHashMap;
import java.util.LinkedHashSet;
import java.util.List;
import java.util.Map;
import java.util.Optional;
import java.util.Set;
import java.util.TreeSet;
import java.util.regex.Matcher;
import java.util.regex.Pattern;
import java.util.spi.ToolProvider;

/** What LANGUAGE.md rules out and the compiled class shows: library, exceptions, static state, depth of calls. */
final class BytecodeTest {
    private static final int DEEPEST = 8;

    private static final Pattern CLASS = Pattern.compile("(?:[a-z]+ )*class ([\\w$]+)(?: extends .*)? \\{");
    private static final Pattern METHOD = Pattern.compile("  (?:[\\w$.\\[\\]]+ )*([\\w$]+)\\([^)]*\\)(?: throws .*)?;");
    private static final Pattern CALL = Pattern.compile("// (?:Interface)?Method (?:\"?([\\w$/\\[;]+)\"?\\.)?\"?([\\w$<>]+)\"?:");

    // rules 4 and 6, and what the compiler writes for an object, for an enum and for its values()
    private static final String LIBRARY = "java/lang/(Math\\.(max|min|abs|floorDiv|floorMod)|Integer\\.bitCount"
            + "|System\\.arraycopy|String\\.(length|charAt)|Object\\.<init>|Enum\\.(<init>|valueOf)"
            + "|(IllegalState|IllegalArgument|IndexOutOfBounds)Exception\\.<init>)"
            + "|java/util/NoSuchElementException\\.<init>|\\[LBarrierFlow\\$Word;\\.clone";

    // rule 5: constants and an enum's values, kept once (each enum has a row of its own, too)
    private static final Set<String> STATIC_ROWS = Set.of("WORDS", "$VALUES");

    private final Map<String, Set<String>> calls = new LinkedHashMap<>();
    private final Map<String, List<String>> code = new LinkedHashMap<>();

    public static void main(String[] args) {
        Optional<ToolProvider> javap = ToolProvider.findFirst("javap");
        Check.due("there is javap", true, javap::isPresent);
        if (javap.isPresent()) {
            BytecodeTest test = new BytecodeTest();
            test.read(listing(javap.get()));
            test.looksAtCalls();
            test.looksAtDepth();
            test.looksAtCode();
        }
        Check.end("BytecodeTest");
    }

    private static String listing(ToolProvider javap) {
        List<String> words = new ArrayList<>(List.of("-c", "-p", "-cp", System.getProperty("java.class.path"),
                "BarrierFlow"));
        for (Class<?> c : BarrierFlow.class.getDeclaredClasses()) {
            words.add(c.getName());
        }
        StringWriter text = new StringWriter();
        PrintWriter out = new PrintWriter(text);
        int exit = javap.run(out, out, words.toArray(new String[0]));
        Check.due("javap reads the classes", 0, () -> exit);
        return text.toString();
    }

    private void read(String listing) {
        String itsClass = "";
        String method = "";
        for (String line : listing.split("\n")) {
            Matcher c = CLASS.matcher(line);
            Matcher m = METHOD.matcher(line);
            Matcher call = CALL.matcher(line);
            if (c.matches()) {
                itsClass = c.group(1);
            } else if (m.matches()) {
                method = itsClass + "." + (m.group(1).equals(itsClass) ? "<init>" : m.group(1));
            } else if (line.equals("  static {};")) {
                method = itsClass + ".<clinit>";
            } else if (call.find()) {
                String of = call.group(1) == null ? itsClass : call.group(1);
                calls.computeIfAbsent(method, k -> new LinkedHashSet<>()).add(of + "." + call.group(2));
            }
            code.computeIfAbsent(method, k -> new ArrayList<>()).add(line.trim());
        }
        Check.due("the listing is read", true, () -> calls.containsKey("BarrierFlow$Flow.tick"));
    }

    private void looksAtCalls() {
        Set<String> outside = new TreeSet<>();
        for (Set<String> callees : calls.values()) {
            for (String callee : callees) {
                if (!callee.startsWith("BarrierFlow")) {
                    outside.add(callee);
                }
            }
        }
        for (String callee : outside) {
            Check.due("4, 6: the library has " + callee, true, () -> callee.matches(LIBRARY));
        }
    }

    private void looksAtDepth() {
        for (String method : calls.keySet()) {
            List<String> open = new ArrayList<>();
            Check.due("8, 11: " + method + " is at most eight calls deep", true, () -> depth(method, open) <= DEEPEST);
        }
    }

    private int depth(String method, List<String> open) {
        if (open.contains(method)) {
            return 1000;
        }
        open.add(method);
        int deepest = 0;
        for (String callee : calls.getOrDefault(method, Set.of())) {
            if (code.containsKey(callee)) {
                deepest = Math.max(deepest, depth(callee, open));
            }
        }
        open.remove(method);
        return 1 + deepest;
    }

    private void looksAtCode() {
        code.forEach((method, lines) -> {
            boolean ofEnum = method.startsWith("BarrierFlow$Word.");
            for (String line : lines) {
                String at = method + ": " + line;
                Check.due("2, 10: no lambda, no text joined by + in " + at, false, () -> line.contains("invokedynamic"));
                Check.due("6: nothing is caught in " + at, false, () -> line.startsWith("Exception table"));
                Check.due("6: no throw in a constructor, " + at, false,
                        () -> method.endsWith("init>") && line.endsWith(": athrow"));
                Check.due("5: no static state, " + at, false,
                        () -> line.contains(": putstatic") && !method.endsWith(".<clinit>"));
                Check.due("6: no cast in " + at, false, () -> line.contains(": checkcast") && !ofEnum);
                if (line.contains(": putstatic")) {
                    String field = line.replaceAll(".*Field ([\\w$]+):.*", "$1");
                    Check.due("5: " + field + " is a constant", true, () -> ofEnum || STATIC_ROWS.contains(field));
                }
            }
        });
    }
}
