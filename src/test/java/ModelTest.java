import java.lang.reflect.Method;
import java.util.ArrayList;
import java.util.Arrays;
import java.util.Comparator;
import java.util.List;

/** All promises: long runs of calls, drawn by a fixed rule, answered alike by the program and the model. */
final class ModelTest {
    private static final int RUNS = Integer.getInteger("runs", 400);
    private static final int CALLS = 512;
    private static final Due D = new Due();

    /** A rule that always draws the same numbers. */
    private static final class Draw {
        private long state;

        Draw(long seed) {
            state = seed * 0x9E3779B97F4A7C15L + 1;
        }

        int below(int n) {
            state = state * 6364136223846793005L + 1442695040888963407L;
            return (int) ((state >>> 33) % n);
        }

        boolean oneIn(int n) {
            return below(n) == 0;
        }
    }

    private final Draw draw;
    private final CellKeys k = new CellKeys();
    private final Model m = new Model();
    private final List<String> told = new ArrayList<>();
    private int calls;
    private boolean differs;

    private ModelTest(long seed) {
        draw = new Draw(seed);
    }

    private static final List<Method> FACE = face();
    private static final int[] WILD = {-1, -9, 8, 9, 60, 61, 100, 101, 256, 1 << 16, Integer.MAX_VALUE,
        Integer.MIN_VALUE};

    /** In a fixed order, since the machine tells methods in any. */
    private static List<Method> face() {
        List<Method> all = new ArrayList<>();
        for (Method method : CellKeys.class.getDeclaredMethods()) {
            if (java.lang.reflect.Modifier.isPublic(method.getModifiers())) {
                all.add(method);
            }
        }
        all.sort(Comparator.comparing(Method::getName));
        return all;
    }

    public static void main(String[] args) throws Exception {
        D.due("calls on the face", FACE.size(), 47);
        int first = Integer.getInteger("first", 1);
        for (int seed = first; seed < first + RUNS; seed++) {
            ModelTest run = new ModelTest(seed);
            run.go();
            if (run.differs) {
                System.out.println("run " + seed + ": " + run.told);
                break;
            }
        }
        D.end();
    }

    private void go() throws Exception {
        while (calls < CALLS && !differs) {
            if (calls == 0 ? !draw.oneIn(10) : draw.oneIn(60)) {
                writeJail();
            } else if (draw.oneIn(40)) {
                writeRow();
            } else {
                Method method = FACE.get(draw.below(FACE.size()));
                if (method.getName().equals("jail") && !draw.oneIn(10)) {
                    continue;
                }
                call(method.getName(), args(method));
            }
        }
        call("digest");
        call("asked");
    }

    private void call(String name, int... args) throws Exception {
        calls++;
        Class<?>[] types = new Class<?>[args.length];
        Object[] values = new Object[args.length];
        for (int i = 0; i < args.length; i++) {
            types[i] = int.class;
            values[i] = args[i];
        }
        String words = name + Arrays.toString(args);
        told.add(words);
        Number got = (Number) CellKeys.class.getMethod(name, types).invoke(k, values);
        Number want = (Number) Model.class.getDeclaredMethod(name, types).invoke(m, values);
        same(words, got.longValue(), want.longValue());
        same(words + ", asked()", k.asked(), m.asked());
        same(words + ", finding()", k.finding(), m.finding());
        same(words + ", upper()", k.upper(), m.upper());
        same(words + ", lower()", k.lower(), m.lower());
        same(words + ", digest()", k.digest(), m.digest());
    }

    private void same(String words, long got, long want) {
        differs |= got != want;
        D.due(words, got, want);
    }

    private int[] args(Method method) {
        int[] args = new int[method.getParameterCount()];
        for (int i = 0; i < args.length; i++) {
            args[i] = draw.oneIn(40) ? WILD[draw.below(WILD.length)] : arg(method.getName(), i);
        }
        return args;
    }

    private int arg(String name, int i) {
        int n = Math.max(1, m.count(0));
        switch (name + " " + i) {
            case "row 1":
            case "text 1":
                return draw.below(7);
            case "lay 2":
            case "put 2":
                return draw.below(300) - 40;
            case "lay 1":
            case "at 1":
            case "put 1":
                return draw.below(6);
            case "copy 1":
            case "copy 3":
            case "copy 4":
                return draw.below(4);
            case "quarrel 2":
            case "saw 1":
                return draw.below(2);
            case "least 0":
            case "order 0":
            case "ways 0":
            case "band 0":
                return draw.below(1 << n);
            case "culprits 0":
            case "odds 0":
                return draw.oneIn(3) ? 99 : draw.below(14);
            case "mark 1":
            case "findings 0":
                return draw.below(7);
            case "count 0":
                return draw.below(9);
            case "door 1":
                return draw.below(5);
            case "fault 0":
            case "jail 0":
            case "text 0":
            case "put 0":
            case "keep 0":
            case "on 0":
                return draw.below(3);
            case "row 0":
            case "lay 0":
            case "at 0":
            case "tear 0":
            case "copy 0":
            case "copy 2":
            case "mean 0":
            case "lets 0":
            case "order 1":
            case "deals 1":
            case "dealt 0":
                return draw.below(4);
            case "forget 0":
                return draw.below(1 + m.count(5));
            default:
                return draw.below(n + (draw.oneIn(20) ? 1 : 0));
        }
    }

    /** A row of cells, mostly unlike ones. */
    private void writeRow() throws Exception {
        int n = Math.max(1, m.count(0));
        int r = draw.below(4);
        int size = draw.oneIn(2) ? n : draw.below(n + 1);
        call("row", r, size);
        int from = draw.below(n);
        int step = draw.oneIn(2) ? 1 : n - 1;
        for (int i = 0; i < size; i++) {
            call("lay", r, i, draw.oneIn(12) ? draw.below(n + 2) - 1 : (from + i * step) % n);
        }
    }

    private void writeJail() throws Exception {
        StringBuilder words = new StringBuilder();
        int n = draw.oneIn(3) ? 2 + draw.below(7) : 3 + draw.below(4);
        words.append(blanks()).append('n').append(n).append(blanks());
        int items = draw.below(12);
        for (int i = 0; i < items; i++) {
            words.append(item(n)).append(blanks());
        }
        if (draw.oneIn(8)) {
            words.setLength(draw.below(words.length()));
        } else if (draw.oneIn(8)) {
            words.setCharAt(draw.below(words.length()), "nk tABCH09ilsbqz".charAt(draw.below(16)));
        }
        int t = draw.below(3);
        call("text", t, words.length());
        for (int i = 0; i < words.length(); i++) {
            if (words.charAt(i) != ' ') {
                call("put", t, i, words.charAt(i));
            }
        }
        call("fault", t);
        call("jail", t);
    }

    private String blanks() {
        return draw.oneIn(4) ? " " : "";
    }

    private String item(int n) {
        int x = draw.below(n);
        int y = (x + 1 + draw.below(n - 1)) % n;
        int z = (x + 1 + draw.below(n - 1)) % n;
        String letters = "" + (char) ('A' + x) + (char) ('A' + y);
        int f = draw.oneIn(8) ? draw.below(10) : draw.below(3);
        switch (draw.below(8)) {
            case 0:
                return "i" + letters.charAt(0);
            case 1:
                return "k" + letters;
            case 2:
                return "l" + letters + f;
            case 3:
                return "s" + letters + f;
            case 4:
                return z == y ? "k" + letters : "t" + letters + (char) ('A' + z);
            case 5:
                return z == y ? "k" + letters : "b" + letters + (char) ('A' + z);
            default:
                return "q" + letters;
        }
    }
}
