import java.lang.reflect.Constructor;
import java.lang.reflect.Field;
import java.lang.reflect.Method;
import java.lang.reflect.Modifier;
import java.nio.file.Files;
import java.nio.file.Paths;
import java.util.ArrayList;
import java.util.HashSet;
import java.util.List;
import java.util.Set;
import java.util.regex.Matcher;
import java.util.regex.Pattern;

/** What of ../shared/LANGUAGE.md can be seen from outside: the face, words, sizes, what is made where. */
final class LanguageTest {
    private static final Due D = new Due();
    private static final String FACE = "row lay at tear copy mean text put fault jail door mark key quarrel foes "
            + "can let out bell keep on lets least order reached most ever ways ring ill without band bands deals "
            + "dealt trades saw forget culprits odds asked upper lower count finding findings digest";

    public static void main(String[] args) throws Exception {
        face();
        insides();
        String all = new String(Files.readAllBytes(Paths.get("src/main/java/CellKeys.java")));
        signs(all);
        String code = bare(all);
        words(code);
        made(code);
        methodSizes(code);
        D.end();
    }

    private static boolean isPrivate(int modifiers) {
        return Modifier.isPrivate(modifiers);
    }

    private static void face() {
        Set<String> due = new HashSet<>(List.of(FACE.split(" ")));
        Set<String> got = new HashSet<>();
        Set<String> own = new HashSet<>();
        for (Method method : CellKeys.class.getDeclaredMethods()) {
            D.check(method + " is public or private", Modifier.isPublic(method.getModifiers())
                    || isPrivate(method.getModifiers()));
            (isPrivate(method.getModifiers()) ? own : got).add(method.getName());
            D.check(method + " takes at most 7", method.getParameterCount() <= 7);
        }
        D.check("the face's calls", got.equals(due));
        own.retainAll(due);
        D.due("private methods with a public one's name", own.size(), 0);
        for (Field field : CellKeys.class.getDeclaredFields()) {
            boolean constant = "BAD FULL FINDING STATE SPENT NONE".contains(field.getName());
            D.check(field + " is private or a constant", constant != isPrivate(field.getModifiers()));
        }
        Constructor<?>[] all = CellKeys.class.getDeclaredConstructors();
        D.check("one public constructor", all.length == 1 && Modifier.isPublic(all[0].getModifiers()));
        D.check("public and final", CellKeys.class.getModifiers() == (Modifier.PUBLIC | Modifier.FINAL));
    }

    private static void insides() {
        Class<?>[] inside = CellKeys.class.getDeclaredClasses();
        D.check("classes", inside.length <= 11);
        fields(CellKeys.class);
        for (Class<?> c : inside) {
            D.check(c + " is static", Modifier.isStatic(c.getModifiers()));
            D.check(c + " is private", isPrivate(c.getModifiers()));
            fields(c);
            for (Method method : c.getDeclaredMethods()) {
                D.check(method + " is not named as one of the face", !FACE.matches("(.* )?" + method.getName() + "( .*)?"));
                D.check(method + " takes at most 7", method.getParameterCount() <= 7);
            }
        }
    }

    private static void fields(Class<?> c) {
        int many = 0;
        for (Field field : c.getDeclaredFields()) {
            many += Modifier.isStatic(field.getModifiers()) ? 0 : 1;
            D.check(field + " is final, if static", !Modifier.isStatic(field.getModifiers())
                    || Modifier.isFinal(field.getModifiers()));
        }
        D.check(c + " has at most 20 fields", many <= 20);
    }

    private static void signs(String all) {
        D.check("signs 1 to 127 alone", all.chars().allMatch(c -> c == '\n' || (c >= ' ' && c <= '~')));
        D.check("one file, no package", !all.contains("\npackage ") && all.contains("\npublic final class CellKeys {\n"));
    }

    /** The code without its comments and its texts. */
    private static String bare(String code) {
        return code.replaceAll("(?s)/\\*.*?\\*/", "").replaceAll("//[^\n]*", "").replaceAll("\"[^\"\n]*\"", "\"\"");
    }

    private static void words(String code) {
        String[] none = {"import", "package", "protected", "throw", "throws", "try", "catch", "finally", "synchronized",
            "assert", "instanceof", "Object", "hashCode", "toString", "yield", "var", "native", "volatile", "transient",
            "strictfp", "float", "double", "Thread", "Random", "Exception"};
        for (String word : none) {
            D.check("no " + word, !Pattern.compile("\\b" + word + "\\b").matcher(code).find());
        }
        D.check("no lambda", !code.contains("->") && !code.contains("::"));
        D.check("no static block", !Pattern.compile("static\\s*\\{").matcher(code).find());
        D.check("no joining by +", !code.contains("\" +") && !code.contains("+ \""));
        Matcher library = Pattern.compile("\\b(System|Math|Integer|Long|Arrays|String)\\.(\\w+)").matcher(code);
        while (library.find()) {
            D.check(library.group(), "System.arraycopy Math.abs Math.min Integer.bitCount".contains(library.group()));
        }
    }

    /** Nothing is made but by fields, so that calls make nothing. */
    private static void made(String code) {
        for (String line : code.split("\n")) {
            if (Pattern.compile("\\bnew\\b").matcher(line).find()) {
                D.check("made by a field: " + line.trim(), line.trim().startsWith("private final "));
            }
            D.check("no clone: " + line.trim(), !line.contains("clone("));
        }
    }

    private static void methodSizes(String code) {
        String[] lines = code.split("\n");
        List<String> open = new ArrayList<>();
        int start = 0;
        for (int i = 0; i < lines.length; i++) {
            String line = lines[i];
            boolean head = line.matches(" +(public |private |static )*[\\w\\[\\]]+( \\w+)?\\([^;]*\\) \\{")
                    && !line.trim().matches("(if|for|while|switch|\\}).*");
            if (head) {
                start = i;
                open.add(line.replaceAll("\\S.*", ""));
            } else if (!open.isEmpty() && line.equals(open.get(open.size() - 1) + "}")) {
                D.check("at most 60 lines: " + lines[start].trim(), i - start < 60);
                open.remove(open.size() - 1);
            }
        }
        D.due("methods open at the end", open.size(), 0);
    }
}
