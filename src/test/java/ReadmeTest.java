import java.io.File;
import java.lang.reflect.Method;
import java.lang.reflect.Modifier;
import java.net.URL;
import java.net.URLClassLoader;
import java.nio.file.Files;
import java.nio.file.Path;
import java.nio.file.Paths;
import java.util.regex.Matcher;
import java.util.regex.Pattern;
import java.util.spi.ToolProvider;

/** README.md: its Java compiles and answers as it tells; it names each call, each word, each test. */
public final class ReadmeTest {
    private static final Pattern JAVA = Pattern.compile("(?s)```java\n(.*?)```");
    private static final Pattern ASKED = Pattern.compile("(k\\.\\w+\\(.*\\));\\s+// (-?\\d+)\\b(?:, asked\\(\\): (-?\\d+)\\b)?.*");
    private static final Due D = new Due();
    private static int lines;

    public static void main(String[] args) throws Exception {
        String page = new String(Files.readAllBytes(Paths.get("README.md")));
        Matcher block = JAVA.matcher(page);
        D.check("README.md has lines of Java", block.find());
        run(testOf(block.group(1)));
        D.check("many lines of README.md tell an answer", lines > 20);
        names(page);
        D.end();
    }

    /** What the lines of Java in README.md call when one of them answers. */
    public static void due(String call, long got, long want) {
        lines++;
        D.due("README.md: " + call, got, want);
    }

    /** A class that runs these lines and compares each answer with the one behind it. */
    private static String testOf(String java) {
        StringBuilder test = new StringBuilder("public class ReadmeLines {\n public static void go() {\n");
        for (String line : java.split("\n")) {
            Matcher asked = ASKED.matcher(line.trim());
            if (!asked.matches()) {
                D.check("'" + line + "' tells its answer", !line.startsWith("k."));
                test.append(line).append('\n');
                continue;
            }
            String call = asked.group(1);
            test.append("ReadmeTest.due(\"").append(call).append("\", ").append(call).append(", ")
                    .append(asked.group(2)).append(");\n");
            if (asked.group(3) != null) {
                test.append("ReadmeTest.due(\"asked() behind ").append(call).append("\", k.asked(), ")
                        .append(asked.group(3)).append(");\n");
            }
        }
        return test.append(" }\n}\n").toString();
    }

    private static void run(String test) throws Exception {
        Path dir = Files.createTempDirectory("readme");
        Path source = dir.resolve("ReadmeLines.java");
        Files.write(source, test.getBytes());
        ToolProvider javac = ToolProvider.findFirst("javac").orElseThrow();
        int failed = javac.run(System.out, System.out, "-d", dir.toString(),
                "-cp", System.getProperty("java.class.path"), source.toString());
        D.due("README.md's Java compiles", failed, 0);
        if (failed == 0) {
            try (URLClassLoader loader = new URLClassLoader(new URL[] {dir.toUri().toURL()})) {
                loader.loadClass("ReadmeLines").getMethod("go").invoke(null);
            }
        }
        for (File file : dir.toFile().listFiles()) {
            file.delete();
        }
        dir.toFile().delete();
    }

    private static void names(String page) {
        for (Method method : CellKeys.class.getDeclaredMethods()) {
            boolean named = Pattern.compile("`" + method.getName() + "\\((\\w+(, \\w+){"
                    + Math.max(0, method.getParameterCount() - 1) + "})" + (method.getParameterCount() == 0 ? "?" : "")
                    + "\\)`").matcher(page).find();
            D.check("README.md names " + method.getName(), named || !Modifier.isPublic(method.getModifiers()));
        }
        for (String word : new String[] {"BAD` -1", "FULL` -2", "FINDING` -3", "STATE` -4", "SPENT` -6", "NONE` -9"}) {
            D.check("README.md tells " + word, page.contains("`" + word));
        }
        for (String name : new File("src/test/java").list()) {
            String test = name.replace(".java", "");
            D.check("README.md names " + test, !test.endsWith("Test") || page.contains("`" + test + "`"));
        }
        Matcher named = Pattern.compile("`(\\w+Test)`").matcher(page);
        while (named.find()) {
            D.check(named.group() + " is there", new File("src/test/java/" + named.group(1) + ".java").isFile());
        }
        D.check(".ci/run is there", page.contains("    bash .ci/run\n") && new File(".ci/run").canExecute());
    }
}
