import java.util.ArrayList;
import java.util.Arrays;
import java.util.List;
import java.util.SortedSet;
import java.util.TreeMap;
import java.util.TreeSet;

/**
 * The document once more, word by word and without any thrift, to compare the program with. It shares
 * nothing with the program: it walks evenings hand by hand instead of filling tables.
 */
final class Model {
    static final int BAD = -1, FULL = -2, FINDING = -3, STATE = -4, SPENT = -6, NONE = -9;
    private static final int NOTHING = 1, BEYOND = 2, UNLIKE = 3, NOUGHT = 4, SIZE = 5;

    private static final class Door {
        int kind;
        int y = NONE;
        int z = NONE;
        int f;

        Door(int kind, int y, int z, int f) {
            this.kind = kind;
            this.y = y;
            this.z = z;
            this.f = f;
        }
    }

    private static final class Cells {
        final List<Door> doors = new ArrayList<>();
        final boolean[][] quarrel = new boolean[8][8];
    }

    private final int[][] rows = new int[6][];
    private final byte[][] texts = new byte[4][];
    private Cells cells = new Cells();
    private SortedSet<Integer> gone = new TreeSet<>();
    private int favours;
    private final List<List<Integer>> keptOut = new ArrayList<>(Arrays.asList(null, null, null));
    private final int[] keptFavours = new int[3];
    private final List<int[]> seen = new ArrayList<>();
    private int asked;
    private long upper;
    private long lower = 1;
    private int finding;
    private final int[] often = new int[6];

    // ---- small things

    private int found(int f) {
        finding = f;
        often[f]++;
        return FINDING;
    }

    private int n() {
        return cells.doors.size();
    }

    private boolean no(int x) {
        return x < 0 || x >= n();
    }

    private boolean noSet(int set) {
        return set < 0 || set >= Math.pow(2, n());
    }

    private static int bits(Iterable<Integer> set) {
        int b = 0;
        for (int x : set) {
            b += (int) Math.pow(2, x);
        }
        return b;
    }

    private static SortedSet<Integer> set(int bits) {
        SortedSet<Integer> s = new TreeSet<>();
        for (int x = 0; x < 8; x++) {
            if (bits / (int) Math.pow(2, x) % 2 == 1) {
                s.add(x);
            }
        }
        return s;
    }

    private static boolean noRow(int r) {
        return r < 0 || r > 5;
    }

    private static boolean noText(int t) {
        return t < 0 || t > 3;
    }

    // ---- 1 rows, texts, jails

    int row(int r, int n) {
        if (noRow(r) || n > 60) {
            return BAD;
        }
        if (n < 0) {
            return found(SIZE);
        }
        rows[r] = new int[n];
        return n;
    }

    int lay(int r, int i, int v) {
        if (noRow(r)) {
            return BAD;
        }
        if (rows[r] == null) {
            return found(NOTHING);
        }
        if (i < 0 || i >= rows[r].length) {
            return found(BEYOND);
        }
        asked = rows[r][i];
        rows[r][i] = v;
        return 1;
    }

    int at(int r, int i) {
        if (noRow(r)) {
            return BAD;
        }
        if (rows[r] == null) {
            return found(NOTHING);
        }
        if (i < 0 || i >= rows[r].length) {
            return found(BEYOND);
        }
        asked = rows[r][i];
        return 1;
    }

    int tear(int r) {
        if (noRow(r)) {
            return BAD;
        }
        if (rows[r] == null) {
            return found(NOTHING);
        }
        rows[r] = null;
        return 1;
    }

    int copy(int r, int i, int to, int j, int n) {
        if (noRow(r) || noRow(to)) {
            return BAD;
        }
        if (n < 0) {
            return found(SIZE);
        }
        if (rows[r] == null || rows[to] == null) {
            return found(NOTHING);
        }
        if (i < 0 || j < 0 || (long) i + n > rows[r].length || (long) j + n > rows[to].length) {
            return found(BEYOND);
        }
        int[] taken = rows[r].clone();
        for (int k = 0; k < n; k++) {
            rows[to][j + k] = taken[i + k];
        }
        return 1;
    }

    int mean(int r) {
        if (noRow(r)) {
            return BAD;
        }
        if (rows[r] == null) {
            return found(NOTHING);
        }
        if (rows[r].length == 0) {
            return found(NOUGHT);
        }
        asked = (int) Arrays.stream(rows[r]).average().getAsDouble();
        return 1;
    }

    int text(int t, int n) {
        if (noText(t) || n > 100) {
            return BAD;
        }
        if (n < 0) {
            return found(SIZE);
        }
        texts[t] = new byte[n];
        Arrays.fill(texts[t], (byte) 32);
        return n;
    }

    int put(int t, int i, int v) {
        if (noText(t)) {
            return BAD;
        }
        if (texts[t] == null) {
            return found(NOTHING);
        }
        if (i < 0 || i >= texts[t].length) {
            return found(BEYOND);
        }
        int was = texts[t][i];
        texts[t][i] = (byte) v;
        return was + 1000;
    }

    int fault(int t) {
        if (noText(t)) {
            return BAD;
        }
        if (texts[t] == null) {
            return found(NOTHING);
        }
        return parse(texts[t], new Cells());
    }

    /** The fault; walks item by item, and looks for each letter in a string. */
    private static int parse(byte[] text, Cells into) {
        int p = skip(text, 0);
        if (p == text.length || text[p] != 'n' || ++p == text.length) {
            return p;
        }
        int n = "..2345678".indexOf((char) text[p]);
        if (n < 2) {
            return p;
        }
        for (int x = 0; x < n; x++) {
            into.doors.add(new Door(0, (x + 1) % n, NONE, 0));
        }
        p = skip(text, p + 1);
        while (p < text.length) {
            int item = "kqtblsi".indexOf((char) text[p]);
            if (item < 0) {
                return p;
            }
            int letters = new int[] {2, 2, 3, 3, 2, 2, 1}[item];
            int[] l = {NONE, NONE, NONE};
            for (int k = 0; k < letters; k++) {
                if (++p == text.length) {
                    return p;
                }
                l[k] = "ABCDEFGH".substring(0, n).indexOf((char) text[p]);
                if (l[k] < 0 || k > 0 && l[k] == l[0] || k > 1 && l[k] == l[1]) {
                    return p;
                }
            }
            int f = 0;
            if (item == 4 || item == 5) {
                if (++p == text.length) {
                    return p;
                }
                f = "0123456789".indexOf((char) text[p]);
                if (f < 0) {
                    return p;
                }
            }
            if (item == 1) {
                into.quarrel[l[0]][l[1]] = true;
                into.quarrel[l[1]][l[0]] = true;
            } else {
                into.doors.set(l[0], new Door(new int[] {0, 0, 1, 5, 3, 4, 2}[item], l[1], l[2], f));
            }
            p = skip(text, p + 1);
        }
        return NONE;
    }

    private static int skip(byte[] text, int from) {
        int p = from;
        while (p < text.length && text[p] == 32) {
            p++;
        }
        return p;
    }

    int jail(int t) {
        if (noText(t)) {
            return BAD;
        }
        if (texts[t] == null) {
            return found(NOTHING);
        }
        Cells anew = new Cells();
        if (parse(texts[t], anew) != NONE) {
            return STATE;
        }
        cells = anew;
        gone.clear();
        favours = 0;
        for (int k = 0; k < 3; k++) {
            keptOut.set(k, null);
        }
        seen.clear();
        return n();
    }

    int door(int x, int what) {
        if (no(x) || what < 0 || what > 3) {
            return BAD;
        }
        Door d = cells.doors.get(x);
        asked = what == 0 ? d.kind : what == 1 ? d.y : what == 2 ? d.z : d.f;
        return 1;
    }

    int mark(int x, int kind) {
        if (no(x) || kind < 1 || kind > 5) {
            return BAD;
        }
        Door d = cells.doors.get(x);
        if (kind == 1 && (d.kind == 1 || d.kind == 5)) {
            return Math.min(d.y, d.z);
        }
        if (kind == 3 && (d.kind == 3 || d.kind == 4)) {
            return d.f;
        }
        if (d.kind != kind) {
            return found(UNLIKE);
        }
        if (kind == 4) {
            return d.y;
        }
        if (kind == 5) {
            return Math.abs(d.y - d.z);
        }
        int many = 0;
        for (Door other : cells.doors) {
            if (other.y == x) {
                many++;
            }
            if (other.z == x) {
                many++;
            }
        }
        return many;
    }

    int key(int x, int y) {
        if (no(x) || no(y) || x == y) {
            return BAD;
        }
        Door d = cells.doors.get(x);
        if (d.kind == 2 || d.z == y) {
            return found(UNLIKE);
        }
        int was = d.y;
        d.y = y;
        return was;
    }

    int quarrel(int x, int y, int is) {
        if (no(x) || no(y) || x == y || is < 0 || is > 1) {
            return BAD;
        }
        int was = cells.quarrel[x][y] ? 1 : 0;
        cells.quarrel[x][y] = is == 1;
        cells.quarrel[y][x] = is == 1;
        return was;
    }

    int foes(int x) {
        if (no(x)) {
            return BAD;
        }
        int b = 0;
        for (int y = 0; y < 8; y++) {
            b += cells.quarrel[x][y] ? 1 << y : 0;
        }
        return b;
    }

    // ---- 2 evenings

    /** Favours of one key, by looking at each way in turn; 1000: no way. */
    private int keyCost(int x, int y, SortedSet<Integer> out, SortedSet<Integer> with) {
        if (!with.contains(y) || cells.quarrel[x][y]) {
            return 1000;
        }
        int best = 1000;
        if (out.contains(y) && cells.doors.get(y).kind != 4) {
            best = Math.min(best, 1);
        }
        for (int c : out) {
            if (c != y && cells.doors.get(c).kind != 4 && !cells.quarrel[x][c]) {
                best = Math.min(best, 2);
            }
        }
        boolean passes = cells.doors.get(x).kind != 5 && cells.doors.get(y).kind != 5 && !out.contains(y);
        for (int c = 0; c < n(); c++) {
            if (c > Math.min(x, y) && c < Math.max(x, y)) {
                passes &= with.contains(c) && !out.contains(c) && cells.doors.get(c).kind != 5
                        && !cells.quarrel[x][c];
            }
        }
        return passes ? Math.min(best, Math.abs(x - y)) : best;
    }

    private int cost(int x, SortedSet<Integer> out, SortedSet<Integer> with) {
        Door d = cells.doors.get(x);
        if (!with.contains(x)) {
            return 1000;
        }
        if (d.kind == 2) {
            return 0;
        }
        if ((d.kind == 3 || d.kind == 4) && out.size() < d.f) {
            return 1000;
        }
        int c = keyCost(x, d.y, out, with);
        return d.z == NONE ? c : Math.min(1000, c + keyCost(x, d.z, out, with));
    }

    private SortedSet<Integer> everyone() {
        SortedSet<Integer> all = new TreeSet<>();
        for (int x = 0; x < n(); x++) {
            all.add(x);
        }
        return all;
    }

    int can(int x) {
        if (no(x)) {
            return BAD;
        }
        if (gone.contains(x)) {
            return STATE;
        }
        int c = cost(x, gone, everyone());
        return c >= 1000 ? NONE : c;
    }

    int let(int x) {
        int c = can(x);
        if (c >= 0) {
            gone.add(x);
            favours += c;
        }
        return c;
    }

    int out() {
        asked = favours;
        return bits(gone);
    }

    int bell() {
        int many = gone.size();
        gone.clear();
        favours = 0;
        return many;
    }

    int keep(int k) {
        if (k < 0 || k > 2) {
            return BAD;
        }
        keptOut.set(k, new ArrayList<>(gone));
        keptFavours[k] = favours;
        return gone.size();
    }

    int on(int k) {
        if (k < 0 || k > 2) {
            return BAD;
        }
        if (keptOut.get(k) == null) {
            return found(NOTHING);
        }
        gone = new TreeSet<>(keptOut.get(k));
        favours = keptFavours[k];
        return gone.size();
    }

    int lets(int r) {
        if (noRow(r)) {
            return BAD;
        }
        if (rows[r] == null) {
            return found(NOTHING);
        }
        if (rows[r].length > n()) {
            return found(SIZE);
        }
        SortedSet<Integer> met = new TreeSet<>();
        for (int x : rows[r]) {
            if (no(x) || !met.add(x)) {
                return found(UNLIKE);
            }
        }
        SortedSet<Integer> went = new TreeSet<>();
        int sum = 0;
        for (int x : rows[r]) {
            int c = cost(x, went, everyone());
            if (c >= 1000) {
                break;
            }
            went.add(x);
            sum += c;
        }
        asked = sum;
        return went.size();
    }

    // ---- 3 who can be out

    /** The sets reached, with the fewest favours: by relaxing till nothing changes any more. */
    private TreeMap<Integer, Integer> reach(SortedSet<Integer> with) {
        TreeMap<Integer, Integer> best = new TreeMap<>();
        best.put(0, 0);
        boolean changed = true;
        while (changed) {
            changed = false;
            for (int from : new ArrayList<>(best.keySet())) {
                SortedSet<Integer> out = set(from);
                for (int x : with) {
                    if (out.contains(x)) {
                        continue;
                    }
                    int c = cost(x, out, with);
                    int to = from + (1 << x);
                    if (c < 1000 && (!best.containsKey(to) || best.get(to) > best.get(from) + c)) {
                        best.put(to, best.get(from) + c);
                        changed = true;
                    }
                }
            }
        }
        return best;
    }

    /** The set by which all of a part are out, or NONE, and its favours. */
    private int[] leastOf(int part) {
        TreeMap<Integer, Integer> all = reach(everyone());
        int[] best = {NONE, 1000};
        for (int s : all.keySet()) {
            if (set(s).containsAll(set(part)) && all.get(s) < best[1]) {
                best = new int[] {s, all.get(s)};
            }
        }
        return best;
    }

    int least(int set) {
        if (noSet(set)) {
            return BAD;
        }
        int[] best = leastOf(set);
        if (best[0] == NONE) {
            return NONE;
        }
        asked = best[0];
        return best[1];
    }

    /** All orders, in their order, of those that are left. */
    private void orders(SortedSet<Integer> left, List<Integer> went, int sum, List<int[]> found) {
        if (left.isEmpty()) {
            int[] order = new int[went.size() + 1];
            for (int i = 0; i < went.size(); i++) {
                order[i] = went.get(i);
            }
            order[went.size()] = sum;
            found.add(order);
            return;
        }
        for (int x : new ArrayList<>(left)) {
            int c = cost(x, new TreeSet<>(went), everyone());
            if (c < 1000) {
                left.remove(x);
                went.add(x);
                orders(left, went, sum + c, found);
                went.remove(went.size() - 1);
                left.add(x);
            }
        }
    }

    int order(int set, int r) {
        if (noSet(set) || noRow(r)) {
            return BAD;
        }
        List<int[]> all = new ArrayList<>();
        orders(set(set), new ArrayList<>(), 0, all);
        if (all.isEmpty()) {
            return NONE;
        }
        int many = set(set).size();
        int[] first = all.get(0);
        for (int[] o : all) {
            if (o[many] < first[many]) {
                first = o;
            }
        }
        rows[r] = Arrays.copyOf(first, many);
        return first[many];
    }

    int reached() {
        TreeMap<Integer, Integer> all = reach(everyone());
        asked = 0;
        for (int s : all.keySet()) {
            asked = Math.max(asked, set(s).size());
        }
        return all.size();
    }

    int most() {
        TreeMap<Integer, Integer> all = reach(everyone());
        int best = 0;
        for (int s : all.keySet()) {
            int more = set(s).size() - set(best).size();
            if (more > 0 || more == 0 && all.get(s) < all.get(best)) {
                best = s;
            }
        }
        asked = all.get(best);
        return best;
    }

    private static SortedSet<Integer> union(Iterable<Integer> sets) {
        SortedSet<Integer> some = new TreeSet<>();
        for (int s : sets) {
            some.addAll(set(s));
        }
        return some;
    }

    int ever() {
        SortedSet<Integer> some = union(reach(everyone()).keySet());
        SortedSet<Integer> none = everyone();
        none.removeAll(some);
        asked = bits(none);
        return bits(some);
    }

    int ways(int set) {
        if (noSet(set)) {
            return BAD;
        }
        List<int[]> all = new ArrayList<>();
        orders(set(set), new ArrayList<>(), 0, all);
        return all.size();
    }

    int ring(int x) {
        if (no(x)) {
            return BAD;
        }
        List<Integer> met = new ArrayList<>();
        int y = x;
        while (y != NONE && !met.contains(y)) {
            met.add(y);
            y = cells.doors.get(y).y;
        }
        asked = y == NONE ? 0 : met.size() - met.indexOf(y);
        return met.size();
    }

    int ill(int x) {
        if (no(x)) {
            return BAD;
        }
        int best = 1000;
        int who = NONE;
        for (int y = 0; y < n(); y++) {
            if (y != x && !cells.quarrel[x][y] && cells.doors.get(y).kind != 4) {
                int c = leastOf(1 << y)[1];
                if (c < best) {
                    best = c;
                    who = y;
                }
            }
        }
        if (who == NONE) {
            return NONE;
        }
        asked = who;
        return best;
    }

    int without(int x) {
        if (no(x)) {
            return BAD;
        }
        SortedSet<Integer> others = everyone();
        others.remove(x);
        TreeMap<Integer, Integer> all = reach(everyone());
        TreeMap<Integer, Integer> fewer = reach(others);
        SortedSet<Integer> lost = union(all.keySet());
        lost.removeAll(union(fewer.keySet()));
        lost.remove(x);
        asked = bits(lost);
        return all.size() - fewer.size();
    }

    // ---- 4 bands, deals, trades

    int band(int set) {
        if (noSet(set) || set == 0) {
            return BAD;
        }
        Integer c = reach(set(set)).get(set);
        return c == null ? NONE : c;
    }

    int bands(int b) {
        if (b < 1 || b > 8 || b > n()) {
            return BAD;
        }
        int many = 0;
        asked = NONE;
        for (int s = (1 << n()) - 1; s > 0; s--) {
            if (set(s).size() == b && reach(set(s)).containsKey(s)) {
                many++;
                asked = s;
            }
        }
        return many;
    }

    private void dealOn(int x, int b, int[] found, int[] first) {
        if (x == n()) {
            for (int s = 1; s < 1 << n(); s++) {
                if (set(s).size() == b && reach(set(s)).containsKey(s)) {
                    return;
                }
            }
            if (found[0] == 0) {
                for (int c = 0; c < n(); c++) {
                    first[c] = cells.doors.get(c).y;
                }
            }
            found[0]++;
            return;
        }
        Door d = cells.doors.get(x);
        if (d.kind == 2) {
            dealOn(x + 1, b, found, first);
            return;
        }
        int was = d.y;
        for (int y = 0; y < n(); y++) {
            if (y != x && y != d.z) {
                d.y = y;
                dealOn(x + 1, b, found, first);
            }
        }
        d.y = was;
    }

    int deals(int b, int r) {
        if (b < 1 || b > 5 || b > n() || noRow(r)) {
            return BAD;
        }
        if (n() > 5) {
            return SPENT;
        }
        int[] found = new int[1];
        int[] first = new int[n()];
        dealOn(0, b, found, first);
        if (found[0] > 0) {
            rows[r] = first;
        }
        return found[0];
    }

    int dealt(int r) {
        if (noRow(r)) {
            return BAD;
        }
        if (rows[r] == null) {
            return found(NOTHING);
        }
        if (rows[r].length != n()) {
            return found(SIZE);
        }
        for (int x = 0; x < n(); x++) {
            Door d = cells.doors.get(x);
            int y = rows[r][x];
            if (d.kind != 2 && (no(y) || y == x || y == d.z)) {
                return found(UNLIKE);
            }
        }
        for (int x = 0; x < n(); x++) {
            Door d = cells.doors.get(x);
            if (d.kind != 2) {
                d.y = rows[r][x];
            }
        }
        return 1;
    }

    private int leastOr99(int x) {
        int[] best = leastOf(1 << x);
        return best[0] == NONE ? 99 : best[1];
    }

    private boolean trade() {
        for (int a = 0; a < n(); a++) {
            for (int b = a + 1; b < n(); b++) {
                Door da = cells.doors.get(a);
                Door db = cells.doors.get(b);
                int p = da.y;
                int q = db.y;
                if (p == NONE || q == NONE || p == q || q == a || q == da.z || p == b || p == db.z) {
                    continue;
                }
                int pBefore = leastOr99(p);
                int qBefore = leastOr99(q);
                da.y = q;
                db.y = p;
                if (leastOr99(p) < pBefore && leastOr99(q) < qBefore) {
                    return true;
                }
                da.y = p;
                db.y = q;
            }
        }
        return false;
    }

    int trades() {
        int many = 0;
        while (many < 20 && trade()) {
            many++;
        }
        return many;
    }

    // ---- 5 nights

    int saw(int x, int is) {
        if (no(x) || is < 0 || is > 1) {
            return BAD;
        }
        if (seen.size() == 8) {
            return FULL;
        }
        seen.add(new int[] {x, is});
        return seen.size() - 1;
    }

    int forget(int n) {
        if (n < 0 || n > seen.size()) {
            return BAD;
        }
        int many = 0;
        while (seen.size() > n) {
            seen.remove(n);
            many++;
        }
        return many;
    }

    private List<Integer> night(int f) {
        List<Integer> fitting = new ArrayList<>();
        TreeMap<Integer, Integer> all = reach(everyone());
        for (int s : all.keySet()) {
            boolean fits = all.get(s) <= f;
            for (int[] one : seen) {
                fits &= set(s).contains(one[0]) == (one[1] == 1);
            }
            if (fits) {
                fitting.add(s);
            }
        }
        return fitting;
    }

    int culprits(int f) {
        if (f < 0 || f > 99) {
            return BAD;
        }
        List<Integer> fitting = night(f);
        if (fitting.isEmpty()) {
            return NONE;
        }
        SortedSet<Integer> must = everyone();
        for (int s : fitting) {
            must.retainAll(set(s));
        }
        asked = bits(must);
        return bits(union(fitting));
    }

    int odds(int f, int x) {
        if (f < 0 || f > 99 || no(x)) {
            return BAD;
        }
        List<Integer> fitting = night(f);
        if (fitting.isEmpty()) {
            return found(NOUGHT);
        }
        int have = 0;
        for (int s : fitting) {
            have += set(s).contains(x) ? 1 : 0;
        }
        int d = java.math.BigInteger.valueOf(have).gcd(java.math.BigInteger.valueOf(fitting.size())).intValue();
        upper = have / d;
        lower = fitting.size() / d;
        return have;
    }

    // ---- 6 what is told

    int asked() {
        return asked;
    }

    long upper() {
        return upper;
    }

    long lower() {
        return lower;
    }

    int count(int what) {
        int many = 0;
        for (int x = 0; x < n(); x++) {
            int kind = cells.doors.get(x).kind;
            many += what == 2 && (kind == 1 || kind == 5) ? 1 : 0;
            many += what == 3 && (kind == 3 || kind == 4) ? 1 : 0;
            for (int y = 0; y < x; y++) {
                many += what == 4 && cells.quarrel[x][y] ? 1 : 0;
            }
        }
        for (int[] r : rows) {
            many += what == 6 && r != null ? 1 : 0;
        }
        for (byte[] t : texts) {
            many += what == 7 && t != null ? 1 : 0;
        }
        return what < 0 || what > 7 ? BAD : what == 0 ? n() : what == 1 ? gone.size()
                : what == 5 ? seen.size() : many;
    }

    int finding() {
        return finding;
    }

    int findings(int f) {
        return f < 1 || f > 5 ? BAD : often[f];
    }

    long digest() {
        List<Integer> all = new ArrayList<>();
        for (int what = 0; what < 8; what++) {
            all.add(count(what));
        }
        all.add(bits(gone));
        all.add(favours);
        for (int x = 0; x < n(); x++) {
            Door d = cells.doors.get(x);
            all.addAll(Arrays.asList(d.kind, d.y, d.z, d.f, foes(x)));
        }
        for (int[] one : seen) {
            all.addAll(Arrays.asList(one[0], one[1]));
        }
        for (int k = 0; k < 3; k++) {
            if (keptOut.get(k) == null) {
                all.add(-1);
            } else {
                all.addAll(Arrays.asList(bits(keptOut.get(k)), keptFavours[k]));
            }
        }
        for (int[] r : rows) {
            all.add(r == null ? -1 : r.length);
            for (int i = 0; r != null && i < r.length; i++) {
                all.add(r[i]);
            }
        }
        for (byte[] t : texts) {
            all.add(t == null ? -1 : t.length);
            for (int i = 0; t != null && i < t.length; i++) {
                all.add((int) t[i]);
            }
        }
        long h = 17;
        for (int v : all) {
            h = 31 * h + v;
        }
        return h;
    }
}
