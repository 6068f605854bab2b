import java.lang.reflect.Constructor;
import java.lang.reflect.Field;
import java.lang.reflect.Method;
import java.lang.reflect.Modifier;
import java.nio.file.Files;
import java.nio.file.Paths;
import java.util.ArrayList;
import java.util.HashMap;
import java.util.HashSet;
import java.util.List;
import java.util.Map;
import java.util.Set;
import java.util.regex.Matcher;
import java.util.regex.Pattern;

/** "The public face": the class has just what the document's own lines tell, name by name and type by type. */
final class FaceTest {
    private static final Pattern CONSTANTS = Pattern.compile("public static final int (.*);");
    private static final Pattern CALL = Pattern.compile("public (int|long) (\\w+)\\((.*)\\);");
    private static final Pattern GROUP = Pattern.compile("Ahead of the calls (.*) the interface says: (---- .*)\\.");
    private static final Due D = new Due();

    public static void main(String[] args) throws Exception {
        String document = read("../shared/DOC.md");
        String face = between(document, "## The public face", "## Terms");
        constants(face);
        calls(face);
        D.check("one constructor in the document", face.contains("    public CellKeys();"));
        Constructor<?>[] made = CellKeys.class.getDeclaredConstructors();
        D.check("one constructor, of nothing", made.length == 1 && made[0].getParameterCount() == 0
                && Modifier.isPublic(made[0].getModifiers()));
        D.check("public and final", CellKeys.class.getModifiers() == (Modifier.PUBLIC | Modifier.FINAL));
        groups(document);
        promisesAreCalls(document);
        D.end();
    }

    private static String read(String path) throws Exception {
        return new String(Files.readAllBytes(Paths.get(path)));
    }

    private static String between(String all, String from, String to) {
        int start = all.indexOf(from);
        int end = all.indexOf(to);
        D.check("the document has " + from, start >= 0 && end > start);
        return start >= 0 && end > start ? all.substring(start, end) : "";
    }

    private static void constants(String face) throws Exception {
        Map<String, Integer> due = new HashMap<>();
        Matcher line = CONSTANTS.matcher(face);
        while (line.find()) {
            for (String one : line.group(1).split(", ")) {
                String[] parts = one.split(" = ");
                due.put(parts[0], Integer.parseInt(parts[1]));
            }
        }
        D.due("constants in the document", due.size(), 6);
        Map<String, Integer> got = new HashMap<>();
        for (Field field : CellKeys.class.getDeclaredFields()) {
            if (!Modifier.isPrivate(field.getModifiers())) {
                D.check(field + " is a public constant int", field.getType() == int.class
                        && field.getModifiers() == (Modifier.PUBLIC | Modifier.STATIC | Modifier.FINAL));
                got.put(field.getName(), field.getInt(null));
            }
        }
        D.check("constants " + got + ", due are " + due, got.equals(due));
    }

    private static void calls(String face) {
        Set<String> due = new HashSet<>();
        Matcher line = CALL.matcher(face);
        while (line.find()) {
            int many = line.group(3).isEmpty() ? 0 : line.group(3).split(", ").length;
            due.add(line.group(1) + " " + line.group(2) + "(" + "int ".repeat(many).trim() + ")");
        }
        D.due("calls in the document", due.size(), 47);
        Set<String> got = new HashSet<>();
        for (Method method : CellKeys.class.getDeclaredMethods()) {
            if (Modifier.isPrivate(method.getModifiers())) {
                continue;
            }
            StringBuilder types = new StringBuilder();
            for (Class<?> type : method.getParameterTypes()) {
                types.append(type).append(' ');
            }
            got.add(method.getReturnType() + " " + method.getName() + "(" + types.toString().trim() + ")");
            D.check(method + " is public, of objects", method.getModifiers() == Modifier.PUBLIC);
        }
        D.check("calls " + got + ", due are " + due, got.equals(due));
    }

    /** The class tells its calls under the headings and in the order of the document. */
    private static void groups(String document) throws Exception {
        String code = read("src/main/java/CellKeys.java");
        int place = 0;
        int groups = 0;
        Matcher group = GROUP.matcher(document);
        while (group.find()) {
            groups++;
            List<String> due = new ArrayList<>();
            due.add("    // " + group.group(2) + "\n");
            for (String name : group.group(1).split(", ")) {
                due.add(" " + name.replace("`", "") + "(");
            }
            for (String words : due) {
                int next = code.indexOf(words, place);
                D.check(words.trim() + " comes next", next >= 0);
                place = Math.max(place, next);
            }
        }
        D.due("groups of calls", groups, 6);
    }

    /** Each promise behind the first one is headed by the call of the face that it tells of. */
    private static void promisesAreCalls(String document) {
        Matcher head = Pattern.compile("## Promise (\\d+): (\\w+)\n\n`(int|long) (\\w+)\\((.*)\\)`: ").matcher(document);
        Set<String> told = new HashSet<>();
        while (head.find()) {
            D.check(head.group(2) + " tells of itself", head.group(2).equals(head.group(4)));
            told.add(head.group(4));
            D.check(head.group() + " is on the face",
                    document.contains("public " + head.group(3) + " " + head.group(4) + "(" + head.group(5) + ");"));
        }
        D.due("promises of calls", told.size(), 47);
    }
}
