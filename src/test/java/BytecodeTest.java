import java.io.PrintWriter;
import java.io.StringWriter;
import java.util.ArrayList;
import java.util.HashMap;
import java.util.HashSet;
import java.util.List;
import java.util.Map;
import java.util.Optional;
import java.util.Set;
import java.util.TreeMap;
import java.util.TreeSet;
import java.util.regex.Matcher;
import java.util.regex.Pattern;
import java.util.spi.ToolProvider;

/** What of ../shared/LANGUAGE.md is best seen in the compiled class: what is called, how deep, and what is made where. */
public final class BytecodeTest {
    private static final int DEEPEST = 8;
    /** Rule 8: only these call one another; the depth is carried as an argument, and 7 is the most. */
    private static final Set<String> RECURSIVE = Set.of("Reader.readEither", "Reader.readBoth", "Reader.readOne",
            "Reader.readRelation", "Reader.readSum", "Reader.readTerm", "Reader.readUnit");
    private static final Set<String> LIBRARY = Set.of("java/lang/Object.<init>", "java/lang/String.length",
            "java/lang/String.charAt", "java/lang/String.indexOf", "java/lang/Math.max", "java/lang/Math.min",
            "java/lang/Math.abs", "java/lang/Integer.signum", "java/lang/System.arraycopy", "java/util/Arrays.fill");
    private static final Pattern METHOD = Pattern.compile("^ {2}(?:[\\w.$\\[\\]]+ )*([\\w.$]+)\\(.*\\).*;$");
    private static final Pattern INVOKED = Pattern.compile("// (?:Interface)?Method (?:([\\w$/]+)\\.)?\"?([\\w<>]+)\"?:");
    private static final Pattern MAKES = Pattern.compile("^ +\\d+: (?:new|newarray|anewarray|multianewarray) ");

    /** Of each method, those that it calls. */
    private final Map<String, Set<String>> calls = new TreeMap<>();
    private final Set<String> makers = new TreeSet<>();
    private final Map<String, Integer> depths = new HashMap<>();

    private BytecodeTest() {
    }

    public static void main(String[] args) {
        Optional<ToolProvider> javap = ToolProvider.findFirst("javap");
        if (javap.isEmpty()) {
            System.out.println("not looked at: this Java has no javap");
            return;
        }
        BytecodeTest test = new BytecodeTest();
        test.read(CableStreet.class, javap.get());
        for (Class<?> inside : CableStreet.class.getDeclaredClasses()) {
            test.read(inside, javap.get());
        }
        test.library();
        test.recursion();
        test.depth();
        test.makers();
        Check.end();
    }

    private void read(Class<?> it, ToolProvider javap) {
        StringWriter code = new StringWriter();
        PrintWriter out = new PrintWriter(code);
        int exit = javap.run(out, out, "-p", "-c", "-cp", System.getProperty("java.class.path"), it.getName());
        Check.due("javap of " + it, 0, exit);
        String method = "";
        for (String line : code.toString().split("\r?\n")) {
            Matcher begin = METHOD.matcher(line);
            Matcher invoked = INVOKED.matcher(line);
            if (begin.matches()) {
                boolean made = begin.group(1).equals(it.getName());
                method = it.getSimpleName() + "." + (made ? "<init>" : begin.group(1));
                calls.put(method, new TreeSet<>());
            } else if (line.contains(": invoke") && invoked.find()) {
                String owner = invoked.group(1) == null ? it.getName() : invoked.group(1);
                String own = owner.substring(owner.indexOf('$') + 1);
                calls.get(method).add((owner.startsWith("CableStreet") ? own : owner) + "." + invoked.group(2));
            } else if (MAKES.matcher(line).find()) {
                makers.add(method);
            }
            Check.due(method + " throws: " + line, false, line.contains(": athrow"));
        }
    }

    private void library() {
        Check.due("methods seen", true, calls.size() > 100 && calls.containsKey("CableStreet.street"));
        for (Map.Entry<String, Set<String>> method : calls.entrySet()) {
            for (String called : method.getValue()) {
                boolean known = called.contains("/") ? LIBRARY.contains(called) : calls.containsKey(called);
                Check.due(method.getKey() + " may call " + called, true, known);
            }
        }
    }

    private void recursion() {
        for (String method : calls.keySet()) {
            Check.due(method + " calls itself", RECURSIVE.contains(method), reaches(method).contains(method));
        }
    }

    private Set<String> reaches(String method) {
        Set<String> seen = new HashSet<>();
        List<String> open = new ArrayList<>(calls.get(method));
        while (!open.isEmpty()) {
            String next = open.remove(open.size() - 1);
            if (seen.add(next)) {
                open.addAll(calls.getOrDefault(next, Set.of()));
            }
        }
        return seen;
    }

    /** A recursion counts once, whatever goes on in it; the library's methods count, too. */
    private void depth() {
        for (String method : calls.keySet()) {
            int deep = RECURSIVE.contains(method) ? 0 : depthOf(method);
            Check.due(method + " goes " + deep + " deep", true, deep <= DEEPEST);
        }
    }

    private int depthOf(String method) {
        Integer known = depths.get(method);
        if (known != null) {
            return known;
        }
        Set<String> called = new TreeSet<>();
        for (String one : RECURSIVE.contains(method) ? RECURSIVE : Set.of(method)) {
            called.addAll(calls.getOrDefault(one, Set.of()));
        }
        int deepest = 0;
        for (String next : called) {
            boolean within = RECURSIVE.contains(method) && RECURSIVE.contains(next);
            deepest = within ? deepest : Math.max(deepest, depthOf(next));
        }
        depths.put(method, deepest + 1);
        return deepest + 1;
    }

    /** All rows are made with the object, so that no run of calls fills the room. */
    private void makers() {
        for (String method : makers) {
            Check.due(method + " makes something and is no constructor", true, method.endsWith(".<init>"));
        }
        Check.due("constructors that make something", true, makers.contains("CableStreet.<init>"));
    }
}
