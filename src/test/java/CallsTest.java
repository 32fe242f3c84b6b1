import java.io.PrintWriter;
import java.io.StringWriter;
import java.nio.file.Files;
import java.nio.file.Path;
import java.util.ArrayList;
import java.util.List;
import java.util.Map;
import java.util.Optional;
import java.util.TreeMap;
import java.util.TreeSet;
import java.util.regex.Matcher;
import java.util.regex.Pattern;
import java.util.spi.ToolProvider;

/**
 * Which method calls which, as the compiled class tells: how deep calls go, who calls himself, and
 * that of the library nothing is called but what ../shared/LANGUAGE.md lists and this class needs.
 */
public final class CallsTest {
    private static final int DEEPEST = 8;
    private static final String RECURSIVE = "[Texts.readCondition, Texts.readEither, Thought.milesThrough]";
    private static final TreeSet<String> LIBRARY = new TreeSet<>(List.of("Integer.bitCount", "Integer.numberOfTrailingZeros",
        "Math.max", "Math.min", "Object.<init>", "String.charAt", "String.indexOf", "String.length", "System.arraycopy"));

    private static final Pattern CLASS = Pattern.compile("^.*class UnsaidWords(?:\\$(\\w+))? \\{");
    private static final Pattern METHOD = Pattern.compile("^  \\S.*?([\\w$]+)\\(.*\\);");
    private static final Pattern CALL = Pattern.compile("// (?:Interface)?Method (?:([\\w/$]+)\\.)?\"?([\\w<>]+)\"?:");
    private static final Pattern DYNAMIC = Pattern.compile("invokedynamic|invokeinterface|athrow|monitorenter|checkcast|multianewarray");

    private final Map<String, TreeSet<String>> calls = new TreeMap<>();
    private final TreeSet<String> library = new TreeSet<>();
    private final TreeSet<String> unwanted = new TreeSet<>();

    public static void main(String[] args) throws Exception {
        Due due = new Due("CallsTest");
        Optional<ToolProvider> javap = ToolProvider.findFirst("javap");
        due.is("javac is here, so javap is", javap.isPresent(), true);
        if (javap.isPresent()) {
            new CallsTest().look(due, javap.get());
        }
        due.close();
    }

    private void look(Due due, ToolProvider javap) throws Exception {
        read(javap);
        TreeSet<String> recursive = new TreeSet<>();
        for (String method : calls.keySet()) {
            if (reached(method).contains(method)) {
                recursive.add(method);
            }
        }
        due.is("call themselves: " + recursive, recursive.toString().equals(RECURSIVE), true);
        int methods = 0;
        for (String method : calls.keySet()) {
            methods++;
            List<String> deepest = deepest(method, new ArrayList<>());
            due.is("eight calls deep at most: " + deepest, deepest.size() <= DEEPEST, true);
        }
        due.is("methods are found", methods > 100, true);
        due.is("of the library " + library, LIBRARY.containsAll(library), true);
        due.is("what the class does not need: " + unwanted, unwanted.isEmpty(), true);
    }

    /** What javap tells of the class and all classes inside it. */
    private void read(ToolProvider javap) throws Exception {
        Path folder = Path.of(UnsaidWords.class.getProtectionDomain().getCodeSource().getLocation().toURI());
        List<String> asked = new ArrayList<>(List.of("-c", "-p"));
        try (var files = Files.list(folder)) {
            files.map(Path::toString).filter(name -> name.matches(".*\\bUnsaidWords(\\$\\w+)?\\.class")).forEach(asked::add);
        }
        StringWriter told = new StringWriter();
        javap.run(new PrintWriter(told, true), new PrintWriter(System.out, true), asked.toArray(new String[0]));
        String type = "";
        String method = "";
        for (String line : told.toString().split("\\R")) {
            Matcher m = CLASS.matcher(line);
            if (m.find()) {
                type = m.group(1) == null ? "UnsaidWords" : m.group(1);
                continue;
            }
            m = METHOD.matcher(line);
            if (m.find()) {
                String name = m.group(1);
                boolean isMaking = name.endsWith("UnsaidWords") || name.endsWith("$" + type);
                method = type + "." + (isMaking ? "<init>" : name);
                calls.putIfAbsent(method, new TreeSet<>());
                continue;
            }
            m = CALL.matcher(line);
            if (m.find()) {
                add(method, m.group(1) == null ? type : m.group(1), m.group(2));
            }
            if (DYNAMIC.matcher(line).find()) {
                unwanted.add(method + ": " + line.trim());
            }
        }
    }

    private void add(String method, String type, String name) {
        String called = type.substring(Math.max(type.lastIndexOf('/'), type.lastIndexOf('$')) + 1) + "." + name;
        if (type.startsWith("java/")) {
            library.add(called);
        } else {
            calls.get(method).add(called);
        }
    }

    private TreeSet<String> reached(String from) {
        TreeSet<String> reached = new TreeSet<>();
        List<String> ask = new ArrayList<>(calls.getOrDefault(from, new TreeSet<>()));
        while (!ask.isEmpty()) {
            String method = ask.remove(ask.size() - 1);
            if (reached.add(method)) {
                ask.addAll(calls.getOrDefault(method, new TreeSet<>()));
            }
        }
        return reached;
    }

    /** The deepest row of calls from a method on in which none stands twice. */
    private List<String> deepest(String method, List<String> above) {
        List<String> row = new ArrayList<>(above);
        row.add(method);
        List<String> best = row;
        for (String called : calls.getOrDefault(method, new TreeSet<>())) {
            if (!row.contains(called)) {
                List<String> other = deepest(called, row);
                best = other.size() > best.size() ? other : best;
            }
        }
        return best;
    }
}
