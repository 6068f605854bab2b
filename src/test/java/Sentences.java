import java.lang.reflect.Method;
import java.util.ArrayList;
import java.util.Comparator;
import java.util.List;
import java.util.regex.Matcher;
import java.util.regex.Pattern;

/**
 * Tests of single sentences of the document. Each is a method that is named by the promise's number, as
 * p06NoneAtTheEnd (p00 is ahead of the promises); run() runs all of a class, and a wrong answer is told
 * with that name.
 */
final class Sentences {
    static final int NOTHING = 1, BEYOND = 2, UNLIKE = 3, NOUGHT = 4, SIZE = 5;
    static final int BAD = CellKeys.BAD, FULL = CellKeys.FULL, STATE = CellKeys.STATE, SPENT = CellKeys.SPENT;
    static final int NONE = CellKeys.NONE;
    static final int MIN = Integer.MIN_VALUE, MAX = Integer.MAX_VALUE;

    private static final Pattern NAME = Pattern.compile("p(\\d\\d)[A-Z]\\w*");
    private static final int FIRST_OFTEN = 5;

    /** A call on an object. */
    interface Call {
        long on(CellKeys k);
    }

    private final Due due = new Due();
    private String sentence = "";

    /** The tests of a class, in the order of their names. */
    static List<Method> testsOf(Class<?> tests) {
        List<Method> all = new ArrayList<>();
        for (Method method : tests.getDeclaredMethods()) {
            if (NAME.matcher(method.getName()).matches()) {
                all.add(method);
            }
        }
        all.sort(Comparator.comparing(Method::getName));
        return all;
    }

    /** The number of the promise that a test is named by. */
    static int promiseOf(Method test) {
        Matcher name = NAME.matcher(test.getName());
        return name.matches() ? Integer.parseInt(name.group(1)) : 0;
    }

    void run(Class<?> tests) throws Exception {
        for (Method test : testsOf(tests)) {
            int promise = promiseOf(test);
            sentence = (promise == 0 ? "Ahead" : "Promise " + promise) + ", " + test.getName();
            test.invoke(null);
        }
        due.end();
    }

    void is(String call, long got, long want) {
        due.due(sentence + ": " + call, got, want);
    }

    /** A call that tells by asked(). */
    void tells(CellKeys k, String call, long got, long want, long asked) {
        is(call, got, want);
        is(call + ", asked()", k.asked(), asked);
    }

    /** A row's places, and that there are no more. */
    void row(CellKeys k, int r, int... places) {
        for (int i = 0; i < places.length; i++) {
            is("at(" + r + ", " + i + ")", k.at(r, i), 1);
            is("place " + i + " of row " + r, k.asked(), places[i]);
        }
        is("behind row " + r, k.at(r, places.length), CellKeys.FINDING);
        is("finding() behind row " + r, k.finding(), BEYOND);
    }

    /** A door's kind, its keepers, its f. */
    void door(CellKeys k, int x, int... answers) {
        for (int what = 0; what < answers.length; what++) {
            tells(k, "door(" + x + ", " + what + ")", k.door(x, what), 1, answers[what]);
        }
    }

    /** The first keepers of all doors. */
    void keepers(CellKeys k, int... dues) {
        for (int x = 0; x < dues.length; x++) {
            tells(k, "door(" + x + ", 1)", k.door(x, 1), 1, dues[x]);
        }
    }

    /** Everything that can be told without changing anything. */
    private static long[] told(CellKeys k) {
        return new long[] {k.digest(), k.asked(), k.upper(), k.lower(), k.finding(),
            k.findings(1), k.findings(2), k.findings(3), k.findings(4), k.findings(5)};
    }

    private void same(String call, long[] before, long[] after) {
        String[] names = {"digest()", "asked()", "upper()", "lower()", "finding()", "findings(1)", "findings(2)",
            "findings(3)", "findings(4)", "findings(5)"};
        for (int i = 0; i < names.length; i++) {
            is(names[i] + " behind " + call, after[i], before[i]);
        }
    }

    /** A call that answers this and changes nothing. */
    void quiet(CellKeys k, String call, long want, Call c) {
        long[] before = told(k);
        is(call, c.on(k), want);
        same(call, before, told(k));
    }

    /** A call that is refused by a finding, and changes but finding() and findings() of it. */
    void found(CellKeys k, int f, String call, Call c) {
        long[] due = told(k);
        is(call, c.on(k), CellKeys.FINDING);
        due[FIRST_OFTEN - 1] = f;
        due[FIRST_OFTEN - 1 + f]++;
        same(call, due, told(k));
    }

    /** Refused by a word, on an object that has everything; nothing changes. */
    void refused(int word, String call, Call c) {
        quiet(everything(), call, word, c);
    }

    /** Refused by a finding, on an object that has everything and whose latest finding is another one. */
    void found(int f, String call, Call c) {
        CellKeys k = everything();
        if (f == SIZE) {
            k.at(5, 0);
        }
        found(k, f, call, c);
    }

    void bad(String call, Call c) {
        refused(BAD, call, c);
    }

    /** Numbers below and above those that a call takes: each must be BAD. */
    void badOutside(String call, int least, int most, java.util.function.IntFunction<Call> calls) {
        for (int v : new int[] {least - 1, most + 1, least - 256, most + 256, MIN, MAX}) {
            bad(call + " of " + v, calls.apply(v));
        }
    }

    /** As badOutside, for an argument where a number below the least one is a finding. */
    void badAbove(String call, int most, java.util.function.IntFunction<Call> calls) {
        for (int v : new int[] {most + 1, most + 256, MAX}) {
            bad(call + " of " + v, calls.apply(v));
        }
    }

    /** Kinds 2, 0, 1, 3, 4, 5, 0, 0; A inside; G and H quarrel. */
    static final String EVERY_KIND = "n8iAkBAtCABlDA1sEA0bFABkGBqGH";

    /**
     * An object that has some of everything: rows 0 to 4 (3 and -7; none; sixty 0; 0, 1, 2; 7, 7), texts 0
     * to 2 (the jail; none; a fault), A, B and E out by two favours, evenings 0 (so) and 1 (without E) kept,
     * A seen out and E in, 1/2 told, each finding answered once, SIZE last, asked() -7.
     */
    static CellKeys everything() {
        CellKeys k = new CellKeys();
        Due.write(k, 0, EVERY_KIND);
        k.jail(0);
        k.text(1, 0);
        Due.write(k, 2, "n2x");
        Due.fill(k, 0, 3, -7);
        k.row(1, 0);
        k.row(2, 60);
        Due.fill(k, 3, 0, 1, 2);
        Due.fill(k, 4, 7, 7);
        k.let(0);
        k.let(1);
        k.keep(1);
        k.let(4);
        k.keep(0);
        k.saw(0, 1);
        k.saw(4, 0);
        k.odds(99, 1);
        k.at(5, 0);
        k.at(0, 9);
        k.mark(0, 1);
        k.mean(1);
        k.row(0, -1);
        k.at(0, 1);
        return k;
    }

    /** A jail in which some are let out, one behind the other. */
    CellKeys jail(String words, int... gone) {
        CellKeys k = Due.jail(words);
        for (int x : gone) {
            is("let(" + x + ") in " + words + " can be", k.let(x) >= 0 ? 1 : 0, 1);
        }
        return k;
    }

    /** A jail in which everybody can get out from inside. */
    static String inside(int cells) {
        StringBuilder words = new StringBuilder("n" + cells);
        for (int x = 0; x < cells; x++) {
            words.append('i').append((char) ('A' + x));
        }
        return words.toString();
    }
}
