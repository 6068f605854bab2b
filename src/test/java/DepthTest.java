import java.io.PrintWriter;
import java.io.StringWriter;
import java.nio.file.Path;
import java.nio.file.Paths;
import java.util.ArrayList;
import java.util.HashMap;
import java.util.HashSet;
import java.util.List;
import java.util.Map;
import java.util.Set;
import java.util.regex.Matcher;
import java.util.regex.Pattern;
import java.util.spi.ToolProvider;

/** Of ../shared/LANGUAGE.md: no recursion, and calls at most eight deep, as the compiled class tells. */
final class DepthTest {
    private static final int DEEPEST = 8;
    private static final Pattern HEAD = Pattern.compile("  [\\w\\[\\]$. ]*?([\\w$]+)\\(.*\\);");
    private static final Pattern CALLED = Pattern.compile("// Method (?:([\\w$/]+)\\.)?\"?([\\w<>$]+)\"?:");
    private static final Due D = new Due();
    private static final Map<String, Set<String>> CALLS = new HashMap<>();
    private static final Map<String, Integer> DEEP = new HashMap<>();

    public static void main(String[] args) throws Exception {
        readCalls();
        int deepest = 0;
        for (String method : CALLS.keySet()) {
            int deep = deepFrom(method, new ArrayList<>());
            D.check(method + " goes " + deep + " deep", deep <= DEEPEST);
            deepest = Math.max(deepest, deep);
        }
        D.check("calls have been read", CALLS.size() > 47 && deepest > 2);
        D.check("the face has been read", CALLS.containsKey("CellKeys.trades") && CALLS.containsKey("CellKeys.row"));
        D.end();
    }

    private static void readCalls() throws Exception {
        Path made = Paths.get(CellKeys.class.getProtectionDomain().getCodeSource().getLocation().toURI());
        List<String> words = new ArrayList<>(List.of("-p", "-c", made.resolve("CellKeys.class").toString()));
        for (Class<?> inside : CellKeys.class.getDeclaredClasses()) {
            words.add(made.resolve(inside.getName() + ".class").toString());
        }
        StringWriter out = new StringWriter();
        ToolProvider javap = ToolProvider.findFirst("javap").orElseThrow();
        PrintWriter to = new PrintWriter(out);
        D.due("javap", javap.run(to, to, words.toArray(new String[0])), 0);
        String owner = "";
        String method = "";
        for (String line : out.toString().split("\\R")) {
            Matcher head = HEAD.matcher(line);
            Matcher called = CALLED.matcher(line);
            if (line.matches(".*\\bclass .*\\{")) {
                owner = line.replaceAll(".*\\bclass ([\\w$]+).*", "$1");
            } else if (head.matches()) {
                method = owner + "." + (head.group(1).equals(owner) ? "<init>" : head.group(1));
                CALLS.put(method, new HashSet<>());
            } else if (called.find()) {
                String of = called.group(1) == null ? owner : called.group(1);
                CALLS.get(method).add(of + "." + called.group(2));
            }
        }
    }

    /** How many calls stand open at once from a method on, itself counted; the library's count, too. */
    private static int deepFrom(String method, List<String> open) {
        D.check(method + " is no recursion, called by " + open, !open.contains(method));
        if (open.contains(method) || !CALLS.containsKey(method)) {
            return 1;
        }
        if (DEEP.containsKey(method)) {
            return DEEP.get(method);
        }
        open.add(method);
        int deepest = 0;
        for (String called : CALLS.get(method)) {
            deepest = Math.max(deepest, deepFrom(called, open));
        }
        open.remove(open.size() - 1);
        DEEP.put(method, deepest + 1);
        return deepest + 1;
    }
}
