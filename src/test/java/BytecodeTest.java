import java.io.PrintWriter;
import java.io.StringWriter;
import java.util.ArrayList;
import java.util.LinkedHashMap;
import java.util.LinkedHashSet;
import java.util.List;
import java.util.Map;
import java.util.Set;
import java.util.regex.Matcher;
import java.util.regex.Pattern;
import java.util.spi.ToolProvider;

/** The rules of LANGUAGE.md that are best seen in the compiled classes: what is called, how deep, and what throws. */
public final class BytecodeTest {
    private static final int MOST_DEPTH = 8;
    private static final Set<String> LIBRARY = Set.of("java/lang/Object.\"<init>\"", "java/lang/System.arraycopy",
        "java/util/Arrays.fill", "java/util/Arrays.copyOf");
    private static final List<String> FORBIDDEN = List.of("athrow", "invokedynamic", "invokeinterface",
        "monitorenter", "checkcast", "Exception table:", "// InterfaceMethod");
    private static final Pattern HEAD = Pattern.compile(" {2}(?! ).*?([\\w$]+)\\(.*\\);");
    private static final Pattern CALL = Pattern.compile("// Method ([^:]+):");
    private static final Due DUE = new Due("BytecodeTest");

    /** For each method, as Class.name, those that it calls. */
    private static final Map<String, Set<String>> CALLS = new LinkedHashMap<>();

    public static void main(String[] args) {
        List<Class<?>> classes = new ArrayList<>(List.of(PairSymbols.class.getDeclaredClasses()));
        classes.add(PairSymbols.class);
        for (Class<?> one : classes) {
            read(one.getName());
        }
        DUE.holds("digest() calls told()", CALLS.get("PairSymbols.digest").contains("PairSymbols.told"));
        for (Map.Entry<String, Set<String>> method : CALLS.entrySet()) {
            for (String called : method.getValue()) {
                DUE.holds(method.getKey() + " may call " + called, CALLS.containsKey(called)
                        || LIBRARY.contains(called));
            }
            List<String> deepest = deepest(method.getKey(), new ArrayList<>());
            DUE.holds("not too deep: " + deepest, deepest.size() <= MOST_DEPTH);
        }
        DUE.end();
    }

    private static String shown(String name) {
        StringWriter out = new StringWriter();
        PrintWriter writer = new PrintWriter(out);
        String path = System.getProperty("java.class.path");
        int code = ToolProvider.findFirst("javap").orElseThrow().run(writer, writer, "-p", "-c", "-cp", path, name);
        writer.flush();
        DUE.is("javap of " + name, code, 0);
        return out.toString();
    }

    private static void read(String name) {
        String method = "";
        for (String line : shown(name).split("\n")) {
            for (String word : FORBIDDEN) {
                DUE.holds("no " + word + " in " + method, !line.contains(word));
            }
            Matcher head = HEAD.matcher(line);
            if (head.matches()) {
                method = name + "." + (head.group(1).equals(name) ? "\"<init>\"" : head.group(1));
                CALLS.putIfAbsent(method, new LinkedHashSet<>());
            }
            Matcher call = CALL.matcher(line);
            if (call.find()) {
                CALLS.get(method).add(call.group(1).contains(".") ? call.group(1) : name + "." + call.group(1));
            }
        }
    }

    /** The longest chain of the program's own methods from this one on; the class has no recursion. */
    private static List<String> deepest(String method, List<String> open) {
        List<String> longest = List.of();
        open.add(method);
        for (String called : CALLS.get(method)) {
            DUE.holds("no recursion from " + method + " to " + called, !open.contains(called));
            if (CALLS.containsKey(called) && !open.contains(called)) {
                List<String> chain = deepest(called, open);
                longest = chain.size() > longest.size() ? chain : longest;
            }
        }
        open.remove(method);
        List<String> result = new ArrayList<>(List.of(method));
        result.addAll(longest);
        return result;
    }
}
