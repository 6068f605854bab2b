import java.lang.reflect.Method;
import java.nio.file.Files;
import java.nio.file.Paths;
import java.util.HashSet;
import java.util.Set;

/** Each promise of the document has tests that are named by its number, and each such test is run. */
final class CoverageTest {
    private static final Class<?>[] TESTS = {Promise01To09Test.class, Promise10To16Test.class,
        Promise17To23Test.class, Promise24To32Test.class, Promise33To37Test.class, Promise38To48Test.class};
    private static final int PROMISES = 48;
    private static final Due D = new Due();

    public static void main(String[] args) throws Exception {
        Set<Integer> promises = new HashSet<>();
        for (Class<?> tests : TESTS) {
            String name = tests.getSimpleName();
            int from = Integer.parseInt(name.substring(7, 9));
            int to = Integer.parseInt(name.substring(11, 13));
            for (Method test : Sentences.testsOf(tests)) {
                int promise = Sentences.promiseOf(test);
                D.check(test.getName() + " is in its class", promise >= from && promise <= to);
                promises.add(promise);
            }
            for (Method other : tests.getDeclaredMethods()) {
                boolean runs = other.getName().matches("p\\d.*") && other.getParameterCount() == 0;
                D.check(other.getName() + " is run", !runs || Sentences.promiseOf(other) > 0);
            }
        }
        for (int promise = 1; promise <= PROMISES; promise++) {
            D.check("promise " + promise + " has a test", promises.contains(promise));
            D.check("the document has promise " + promise, document().contains("## Promise " + promise + ":"));
        }
        D.check("the document has no more", !document().contains("## Promise " + (PROMISES + 1) + ":"));
        D.end();
    }

    private static String document() throws Exception {
        return new String(Files.readAllBytes(Paths.get("../shared/DOC.md")));
    }
}
