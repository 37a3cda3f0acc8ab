import java.io.IOException;
import java.io.PrintWriter;
import java.io.StringWriter;
import java.nio.file.Files;
import java.nio.file.Path;
import java.util.ArrayList;
import java.util.List;
import java.util.Map;
import java.util.Set;
import java.util.TreeMap;
import java.util.TreeSet;
import java.util.regex.Matcher;
import java.util.regex.Pattern;
import java.util.spi.ToolProvider;
import java.util.stream.Stream;

/** The rules of LANGUAGE.md that can be seen in what the compiler made: who calls whom, what is made where. */
public final class CallsTest {
    private static final Pattern CLASS = Pattern.compile("^(?:public )?(?:final )?class ([\\w$]+) \\{$");
    private static final Pattern METHOD = Pattern.compile("^  (?:[\\w$\\[\\]]+ )*([\\w$]+)\\(.*\\);$");
    private static final Pattern FIELD = Pattern.compile("^  (?!.*\\bstatic\\b)[\\w$\\[\\] ]+;$");
    private static final Pattern CALL = Pattern.compile("// (?:Interface)?Method ([^:]+):");
    private static final Pattern MAKING = Pattern.compile("^ +\\d+: (?:new|newarray|anewarray|multianewarray) .*");
    private static final Pattern FORBIDDEN =
        Pattern.compile("^ +\\d+: (?:athrow|monitorenter|monitorexit|invokedynamic|checkcast|putstatic)\\b.*");
    private static final Pattern LIBRARY = Pattern.compile("java/lang/(?:Object\\.\"<init>\""
        + "|(?:Math|Integer|Long)\\.(?:compare|max|min|abs|bitCount|floorDiv|floorMod))");
    private static final int DEEPEST = 8;
    private static final int MOST_FIELDS = 20;

    private final Check check = new Check("CallsTest");
    private final Map<String, Set<String>> calls = new TreeMap<>();
    private final Map<String, Integer> fields = new TreeMap<>();

    public static void main(String[] args) throws IOException {
        CallsTest test = new CallsTest();
        test.read(listing());
        test.depths();
        test.fields.forEach((name, many) -> test.check.holds(name + " has " + many + " fields", many <= MOST_FIELDS));
        test.check.end();
    }

    private static String[] listing() throws IOException {
        Path home = Path.of(TannedMen.class.getProtectionDomain().getCodeSource().getLocation().getPath());
        List<String> arguments = new ArrayList<>(List.of("-c", "-p"));
        try (Stream<Path> files = Files.list(home)) {
            files.map(Path::toString).filter(file -> file.matches(".*/TannedMen(\\$\\w+)?\\.class")).sorted()
                .forEach(arguments::add);
        }
        StringWriter out = new StringWriter();
        PrintWriter printer = new PrintWriter(out);
        ToolProvider.findFirst("javap").orElseThrow().run(printer, printer, arguments.toArray(new String[0]));
        return out.toString().split("\n");
    }

    private void read(String[] lines) {
        String type = "";
        String method = "";
        for (String line : lines) {
            Matcher head = CLASS.matcher(line);
            Matcher start = METHOD.matcher(line);
            Matcher call = CALL.matcher(line);
            if (head.matches()) {
                type = head.group(1);
                fields.put(type, 0);
            } else if (start.matches()) {
                method = start.group(1).equals(type) ? type + ".\"<init>\"" : type + "." + start.group(1);
                check.holds(method + " is told once", calls.put(method, new TreeSet<>()) == null);
            } else if (FIELD.matcher(line).matches()) {
                fields.merge(type, 1, Integer::sum);
            } else if (call.find()) {
                called(type, method, call.group(1));
            }
            check.holds(method + " has no" + line, !FORBIDDEN.matcher(line).matches());
            boolean isMaker = method.endsWith("\"<init>\"");
            check.holds(method + " makes nothing:" + line, isMaker || !MAKING.matcher(line).matches());
        }
    }

    private void called(String type, String method, String callee) {
        if (callee.startsWith("java")) {
            check.holds(method + " calls " + callee, LIBRARY.matcher(callee).matches());
        } else {
            calls.get(method).add(callee.contains(".") ? callee : type + "." + callee);
        }
    }

    /** Recursion would go deeper than any bound. */
    private void depths() {
        check.holds("methods are seen", calls.size() > 100);
        for (String method : calls.keySet()) {
            int depth = depth(method, 1);
            check.holds(method + " goes " + depth + " deep", depth <= DEEPEST);
        }
    }

    private int depth(String method, int above) {
        int deepest = above;
        if (above <= DEEPEST) {
            check.holds(method + " is known", calls.containsKey(method));
            for (String callee : calls.getOrDefault(method, Set.of())) {
                deepest = Math.max(deepest, depth(callee, above + 1));
            }
        }
        return deepest;
    }
}
