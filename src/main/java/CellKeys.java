/**
 * A jail without warders: the key of each door is kept by another one, who must be asked for it.
 *
 * All rows and tables are made once, with the object, so that no call makes anything that stays.
 */
public final class CellKeys {
    public static final int BAD = -1, FULL = -2, FINDING = -3, STATE = -4, SPENT = -6, NONE = -9;

    private static final int NOTHING = 1, BEYOND = 2, UNLIKE = 3, NOUGHT = 4, SIZE = 5;
    private static final int SINGLE = 0, TWO = 1, INSIDE = 2, LATE = 3, SPRUNG = 4, BLIND = 5;

    private static final int MISSING = -1;
    private static final int ROWS = 6, ROW_PLACES = 60;
    private static final int TEXTS = 4, TEXT_PLACES = 100, BLANK = 32, PUT_MORE = 1000;
    private static final int MOST_CELLS = 8, FEWEST_CELLS = 2, SETS = 256;
    private static final int KEPT_EVENINGS = 3, SIGHTINGS = 8;
    private static final int DEAL_CELLS = 5, MOST_TRADES = 20, NEVER_OUT = 99, MOST_FAVOURS = 99;
    private static final int DOOR_ANSWERS = 4, COUNTS = 8, FINDINGS = 5;

    private final Told told = new Told();
    private final Rows rows = new Rows();
    private final Texts texts = new Texts();
    private final Reader reader = new Reader();
    private final Jail jail = new Jail();
    private final Evenings evenings = new Evenings();
    private final Reach reach = new Reach();
    private final Orders orders = new Orders();
    private final Dealer dealer = new Dealer();
    private final Sightings sightings = new Sightings();

    public CellKeys() {
    }

    // ---- 1 rows, texts, jails

    public int row(int r, int n) {
        if (!rows.isNumber(r) || n > ROW_PLACES) {
            return BAD;
        }
        if (n < 0) {
            return told.found(SIZE);
        }
        rows.make(r, n);
        return n;
    }

    public int lay(int r, int i, int v) {
        int refusal = placeRefusal(r, i);
        if (refusal != 0) {
            return refusal;
        }
        told.tell(rows.get(r, i));
        rows.set(r, i, v);
        return 1;
    }

    public int at(int r, int i) {
        int refusal = placeRefusal(r, i);
        if (refusal != 0) {
            return refusal;
        }
        told.tell(rows.get(r, i));
        return 1;
    }

    public int tear(int r) {
        int refusal = rowRefusal(r);
        if (refusal != 0) {
            return refusal;
        }
        rows.remove(r);
        return 1;
    }

    public int copy(int r, int i, int to, int j, int n) {
        if (!rows.isNumber(r) || !rows.isNumber(to)) {
            return BAD;
        }
        if (n < 0) {
            return told.found(SIZE);
        }
        if (!rows.isThere(r) || !rows.isThere(to)) {
            return told.found(NOTHING);
        }
        if (!rows.hasPlaces(r, i, n) || !rows.hasPlaces(to, j, n)) {
            return told.found(BEYOND);
        }
        rows.move(r, i, to, j, n);
        return 1;
    }

    public int mean(int r) {
        int refusal = rowRefusal(r);
        if (refusal != 0) {
            return refusal;
        }
        int size = rows.sizeOf(r);
        if (size < 1) {
            return told.found(NOUGHT);
        }
        told.tell((int) (rows.sumOf(r) / size));
        return 1;
    }

    public int text(int t, int n) {
        if (!texts.isNumber(t) || n > TEXT_PLACES) {
            return BAD;
        }
        if (n < 0) {
            return told.found(SIZE);
        }
        texts.make(t, n);
        return n;
    }

    public int put(int t, int i, int v) {
        int refusal = textRefusal(t);
        if (refusal != 0) {
            return refusal;
        }
        if (!texts.isPlace(t, i)) {
            return told.found(BEYOND);
        }
        int was = texts.get(t, i);
        texts.set(t, i, (byte) v);
        return was + PUT_MORE;
    }

    public int fault(int t) {
        int refusal = textRefusal(t);
        if (refusal != 0) {
            return refusal;
        }
        return reader.read(texts, t);
    }

    public int jail(int t) {
        int refusal = textRefusal(t);
        if (refusal != 0) {
            return refusal;
        }
        if (reader.read(texts, t) != NONE) {
            return STATE;
        }
        jail.become(reader.draft());
        evenings.clear();
        sightings.dropFrom(0);
        return jail.cells();
    }

    public int door(int x, int what) {
        if (!jail.isCell(x) || what < 0 || what >= DOOR_ANSWERS) {
            return BAD;
        }
        told.tell(jail.doorAnswer(x, what));
        return 1;
    }

    public int mark(int x, int kind) {
        if (!jail.isCell(x) || kind <= SINGLE || kind > BLIND) {
            return BAD;
        }
        if (!jail.isOf(x, kind)) {
            return told.found(UNLIKE);
        }
        return jail.markOf(x, kind);
    }

    public int key(int x, int y) {
        if (!jail.isCell(x) || !jail.isCell(y) || x == y) {
            return BAD;
        }
        if (!jail.mayKeep(x, y)) {
            return told.found(UNLIKE);
        }
        int was = jail.keeperOf(x);
        jail.setKeeper(x, y);
        return was;
    }

    public int quarrel(int x, int y, int is) {
        if (!jail.isCell(x) || !jail.isCell(y) || x == y || !isYesOrNo(is)) {
            return BAD;
        }
        int was = (jail.foesOf(x) >> y) & 1;
        jail.setQuarrel(x, y, is);
        return was;
    }

    public int foes(int x) {
        return jail.isCell(x) ? jail.foesOf(x) : BAD;
    }

    // ---- 2 evenings

    public int can(int x) {
        if (!jail.isCell(x)) {
            return BAD;
        }
        if (evenings.hasOut(x)) {
            return STATE;
        }
        return jail.favoursFor(x, evenings.whoIsOut(), jail.everyone());
    }

    public int let(int x) {
        int favours = can(x);
        if (favours >= 0) {
            evenings.addOut(x, favours);
        }
        return favours;
    }

    public int out() {
        told.tell(evenings.favours());
        return evenings.whoIsOut();
    }

    public int bell() {
        int many = evenings.howManyOut();
        evenings.allIn();
        return many;
    }

    public int keep(int k) {
        if (!evenings.isNumber(k)) {
            return BAD;
        }
        evenings.store(k);
        return evenings.howManyOut();
    }

    public int on(int k) {
        if (!evenings.isNumber(k)) {
            return BAD;
        }
        if (!evenings.isKept(k)) {
            return told.found(NOTHING);
        }
        evenings.restore(k);
        return evenings.howManyOut();
    }

    public int lets(int r) {
        int refusal = rowRefusal(r);
        if (refusal != 0) {
            return refusal;
        }
        if (rows.sizeOf(r) > jail.cells()) {
            return told.found(SIZE);
        }
        if (!tellsUnlikeCells(r)) {
            return told.found(UNLIKE);
        }
        return letRowOut(r);
    }

    // ---- 3 who can be out

    public int least(int set) {
        if (!jail.isSet(set)) {
            return BAD;
        }
        reachAll();
        int cheapest = reach.cheapestWith(set);
        if (cheapest == NONE) {
            return NONE;
        }
        told.tell(cheapest);
        return reach.favoursOf(cheapest);
    }

    public int order(int set, int r) {
        if (!jail.isSet(set) || !rows.isNumber(r)) {
            return BAD;
        }
        int favours = orders.findFirst(jail, set);
        if (favours == NONE) {
            return NONE;
        }
        int many = Integer.bitCount(set);
        rows.make(r, many);
        for (int i = 0; i < many; i++) {
            rows.set(r, i, orders.stepAt(i));
        }
        return favours;
    }

    public int reached() {
        reachAll();
        told.tell(Integer.bitCount(reach.greatest()));
        return reach.howMany();
    }

    public int most() {
        reachAll();
        int greatest = reach.greatest();
        told.tell(reach.favoursOf(greatest));
        return greatest;
    }

    public int ever() {
        reachAll();
        int some = reach.inSome();
        told.tell(jail.everyone() & ~some);
        return some;
    }

    public int ways(int set) {
        return jail.isSet(set) ? orders.howMany(jail, set) : BAD;
    }

    public int ring(int x) {
        if (!jail.isCell(x)) {
            return BAD;
        }
        // The ring's own length is what is met from one that surely lies in it.
        told.tell(jail.metFrom(jail.farFrom(x)));
        return jail.metFrom(x);
    }

    public int ill(int x) {
        if (!jail.isCell(x)) {
            return BAD;
        }
        reachAll();
        int helpers = jail.everyone() & ~jail.foesOf(x) & ~jail.sprungOnes() & ~(1 << x);
        int best = NONE;
        int helper = NONE;
        for (int y = 0; y < jail.cells(); y++) {
            int favours = ((helpers >> y) & 1) == 1 ? reach.leastFor(y) : NONE;
            if (favours != NONE && (best == NONE || favours < best)) {
                best = favours;
                helper = y;
            }
        }
        if (best != NONE) {
            told.tell(helper);
        }
        return best;
    }

    public int without(int x) {
        if (!jail.isCell(x)) {
            return BAD;
        }
        reachAll();
        int many = reach.howMany();
        int some = reach.inSome();
        int others = jail.everyone() & ~(1 << x);
        reach.fill(jail, others);
        told.tell(some & ~reach.inSome() & others);
        return many - reach.howMany();
    }

    // ---- 4 bands, deals, trades

    public int band(int set) {
        if (!jail.isSet(set) || set == 0) {
            return BAD;
        }
        return getsOut(set) ? reach.favoursOf(set) : NONE;
    }

    public int bands(int b) {
        if (b < 1 || b > jail.cells()) {
            return BAD;
        }
        int many = 0;
        int first = NONE;
        for (int set = 1; set <= jail.everyone(); set++) {
            if (Integer.bitCount(set) == b && getsOut(set)) {
                first = many == 0 ? set : first;
                many++;
            }
        }
        told.tell(first);
        return many;
    }

    public int deals(int b, int r) {
        if (b < 1 || b > DEAL_CELLS || b > jail.cells() || !rows.isNumber(r)) {
            return BAD;
        }
        if (jail.cells() > DEAL_CELLS) {
            return SPENT;
        }
        int many = dealer.dealAll(jail, b);
        if (many > 0) {
            rows.make(r, jail.cells());
            for (int x = 0; x < jail.cells(); x++) {
                rows.set(r, x, dealer.firstKeeperOf(x));
            }
        }
        return many;
    }

    public int dealt(int r) {
        int refusal = rowRefusal(r);
        if (refusal != 0) {
            return refusal;
        }
        if (rows.sizeOf(r) != jail.cells()) {
            return told.found(SIZE);
        }
        for (int x = 0; x < jail.cells(); x++) {
            if (!jail.isOf(x, INSIDE) && !jail.mayKeep(x, rows.get(r, x))) {
                return told.found(UNLIKE);
            }
        }
        for (int x = 0; x < jail.cells(); x++) {
            if (!jail.isOf(x, INSIDE)) {
                jail.setKeeper(x, rows.get(r, x));
            }
        }
        return 1;
    }

    public int trades() {
        int many = 0;
        while (many < MOST_TRADES && dealer.tradeOnce(jail)) {
            many++;
        }
        return many;
    }

    // ---- 5 nights

    public int saw(int x, int is) {
        if (!jail.isCell(x) || !isYesOrNo(is)) {
            return BAD;
        }
        if (sightings.isFull()) {
            return FULL;
        }
        return sightings.add(x, is);
    }

    public int forget(int n) {
        if (n < 0 || n > sightings.size()) {
            return BAD;
        }
        return sightings.dropFrom(n);
    }

    public int culprits(int f) {
        if (!isFavours(f)) {
            return BAD;
        }
        reachAll();
        int some = 0;
        int all = jail.everyone();
        boolean any = false;
        for (int set = 0; set <= jail.everyone(); set++) {
            if (fitsNight(set, f)) {
                any = true;
                some |= set;
                all &= set;
            }
        }
        if (!any) {
            return NONE;
        }
        told.tell(all);
        return some;
    }

    public int odds(int f, int x) {
        if (!isFavours(f) || !jail.isCell(x)) {
            return BAD;
        }
        reachAll();
        int sets = 0;
        int have = 0;
        for (int set = 0; set <= jail.everyone(); set++) {
            if (fitsNight(set, f)) {
                sets++;
                have += (set >> x) & 1;
            }
        }
        if (sets == 0) {
            return told.found(NOUGHT);
        }
        told.tellFraction(have, sets);
        return have;
    }

    // ---- 6 what is told

    public int asked() {
        return told.latest();
    }

    public long upper() {
        return told.upperNumber();
    }

    public long lower() {
        return told.lowerNumber();
    }

    public int count(int what) {
        switch (what) {
            case 0:
                return jail.cells();
            case 1:
                return evenings.howManyOut();
            case 2:
                return jail.doorsOf(TWO);
            case 3:
                return jail.doorsOf(LATE);
            case 4:
                return jail.quarrels();
            case 5:
                return sightings.size();
            case 6:
                return rows.howMany();
            case 7:
                return texts.howMany();
            default:
                return BAD;
        }
    }

    public int finding() {
        return told.latestFinding();
    }

    public int findings(int f) {
        return f < 1 || f > FINDINGS ? BAD : told.howOften(f);
    }

    public long digest() {
        long h = 17;
        for (int what = 0; what < COUNTS; what++) {
            h = 31 * h + count(what);
        }
        h = 31 * h + evenings.whoIsOut();
        h = 31 * h + evenings.favours();
        h = jail.mix(h);
        h = sightings.mix(h);
        h = evenings.mixKept(h);
        h = rows.mix(h);
        return texts.mix(h);
    }

    // ---- what several calls share

    /** 0, or why a row can't be used. */
    private int rowRefusal(int r) {
        if (!rows.isNumber(r)) {
            return BAD;
        }
        return rows.isThere(r) ? 0 : told.found(NOTHING);
    }

    /** 0, or why a place of a row can't be used. */
    private int placeRefusal(int r, int i) {
        int refusal = rowRefusal(r);
        if (refusal != 0) {
            return refusal;
        }
        return rows.isPlace(r, i) ? 0 : told.found(BEYOND);
    }

    /** 0, or why a text can't be used. */
    private int textRefusal(int t) {
        if (!texts.isNumber(t)) {
            return BAD;
        }
        return texts.isThere(t) ? 0 : told.found(NOTHING);
    }

    private static boolean isYesOrNo(int is) {
        return is == 0 || is == 1;
    }

    private static boolean isFavours(int f) {
        return f >= 0 && f <= MOST_FAVOURS;
    }

    private void reachAll() {
        reach.fill(jail, jail.everyone());
    }

    /** Whether a band gets out by itself; then what was reached is told of it. */
    private boolean getsOut(int set) {
        reach.fill(jail, set);
        return reach.has(set);
    }

    private boolean fitsNight(int set, int f) {
        return reach.has(set) && reach.favoursOf(set) <= f && sightings.fit(set);
    }

    private boolean tellsUnlikeCells(int r) {
        int met = 0;
        for (int i = 0; i < rows.sizeOf(r); i++) {
            int x = rows.get(r, i);
            if (!jail.isCell(x) || ((met >> x) & 1) == 1) {
                return false;
            }
            met |= 1 << x;
        }
        return true;
    }

    private int letRowOut(int r) {
        int gone = 0;
        int favours = 0;
        int many = 0;
        for (int i = 0; i < rows.sizeOf(r); i++) {
            int x = rows.get(r, i);
            int more = jail.favoursFor(x, gone, jail.everyone());
            if (more < 0) {
                break;
            }
            gone |= 1 << x;
            favours += more;
            many++;
        }
        told.tell(favours);
        return many;
    }

    /** What asked(), upper(), lower(), finding() and findings() tell. */
    private static final class Told {
        private final int[] often = new int[FINDINGS + 1];
        private int latest;
        private long upperNumber;
        private long lowerNumber = 1;
        private int latestFinding;

        void tell(int v) {
            latest = v;
        }

        int latest() {
            return latest;
        }

        int found(int f) {
            if (f >= 1 && f <= FINDINGS) {
                latestFinding = f;
                often[f]++;
            }
            return FINDING;
        }

        int latestFinding() {
            return latestFinding;
        }

        int howOften(int f) {
            return f >= 1 && f <= FINDINGS ? often[f] : 0;
        }

        void tellFraction(int part, int whole) {
            upperNumber = part;
            lowerNumber = whole;
            for (int d = whole; d > 1; d--) {
                if (part % d == 0 && whole % d == 0) {
                    upperNumber = part / d;
                    lowerNumber = whole / d;
                    return;
                }
            }
        }

        long upperNumber() {
            return upperNumber;
        }

        long lowerNumber() {
            return lowerNumber;
        }
    }

    /** The rows of ints. */
    private static final class Rows {
        private final int[][] places = new int[ROWS][ROW_PLACES];
        private final int[] sizes = new int[ROWS];

        Rows() {
            for (int r = 0; r < ROWS; r++) {
                sizes[r] = MISSING;
            }
        }

        boolean isNumber(int r) {
            return r >= 0 && r < ROWS;
        }

        int sizeOf(int r) {
            return isNumber(r) ? sizes[r] : MISSING;
        }

        boolean isThere(int r) {
            return sizeOf(r) != MISSING;
        }

        boolean isPlace(int r, int i) {
            return i >= 0 && i < sizeOf(r);
        }

        /** Whether n places from i on are there; i may be just behind the last one if n is 0. */
        boolean hasPlaces(int r, int i, int n) {
            int size = sizeOf(r);
            return i >= 0 && i <= size && n >= 0 && n <= size - i;
        }

        int get(int r, int i) {
            return isPlace(r, i) ? places[r][i] : 0;
        }

        void set(int r, int i, int v) {
            if (isPlace(r, i)) {
                places[r][i] = v;
            }
        }

        void make(int r, int n) {
            if (!isNumber(r) || n < 0 || n > ROW_PLACES) {
                return;
            }
            sizes[r] = n;
            for (int i = 0; i < n; i++) {
                places[r][i] = 0;
            }
        }

        void remove(int r) {
            if (isNumber(r)) {
                sizes[r] = MISSING;
            }
        }

        void move(int r, int i, int to, int j, int n) {
            if (hasPlaces(r, i, n) && hasPlaces(to, j, n)) {
                System.arraycopy(places[r], i, places[to], j, n);
            }
        }

        long sumOf(int r) {
            long sum = 0;
            for (int i = 0; i < sizeOf(r); i++) {
                sum += get(r, i);
            }
            return sum;
        }

        int howMany() {
            int many = 0;
            for (int r = 0; r < ROWS; r++) {
                many += isThere(r) ? 1 : 0;
            }
            return many;
        }

        long mix(long h) {
            for (int r = 0; r < ROWS; r++) {
                h = 31 * h + sizeOf(r);
                for (int i = 0; i < sizeOf(r); i++) {
                    h = 31 * h + get(r, i);
                }
            }
            return h;
        }
    }

    /** The texts of bytes. */
    private static final class Texts {
        private final byte[][] places = new byte[TEXTS][TEXT_PLACES];
        private final int[] sizes = new int[TEXTS];

        Texts() {
            for (int t = 0; t < TEXTS; t++) {
                sizes[t] = MISSING;
            }
        }

        boolean isNumber(int t) {
            return t >= 0 && t < TEXTS;
        }

        int sizeOf(int t) {
            return isNumber(t) ? sizes[t] : MISSING;
        }

        boolean isThere(int t) {
            return sizeOf(t) != MISSING;
        }

        boolean isPlace(int t, int i) {
            return i >= 0 && i < sizeOf(t);
        }

        int get(int t, int i) {
            return isPlace(t, i) ? places[t][i] : BLANK;
        }

        void set(int t, int i, byte v) {
            if (isPlace(t, i)) {
                places[t][i] = v;
            }
        }

        void make(int t, int n) {
            if (!isNumber(t) || n < 0 || n > TEXT_PLACES) {
                return;
            }
            sizes[t] = n;
            for (int i = 0; i < n; i++) {
                places[t][i] = BLANK;
            }
        }

        int howMany() {
            int many = 0;
            for (int t = 0; t < TEXTS; t++) {
                many += isThere(t) ? 1 : 0;
            }
            return many;
        }

        long mix(long h) {
            for (int t = 0; t < TEXTS; t++) {
                h = 31 * h + sizeOf(t);
                for (int i = 0; i < sizeOf(t); i++) {
                    h = 31 * h + get(t, i);
                }
            }
            return h;
        }
    }

    /** Reads a jail out of a text, sign by sign, into a draft. */
    private static final class Reader {
        private final Jail draft = new Jail();
        private final int[] parts = new int[3];
        private int item;
        private int taken;
        private boolean counted;

        Jail draft() {
            return draft;
        }

        /** The text's fault, or NONE: then the draft is the jail. */
        int read(Texts texts, int t) {
            item = 0;
            taken = 0;
            counted = false;
            int size = texts.sizeOf(t);
            for (int place = 0; place < size; place++) {
                int sign = texts.get(t, place);
                boolean goesOn = item == 0 ? opens(sign) : continues(sign);
                if (!goesOn) {
                    return place;
                }
            }
            return item == 0 && counted ? NONE : size;
        }

        private boolean opens(int sign) {
            if (sign == BLANK) {
                return true;
            }
            if (formOf(sign).isEmpty() || (sign == 'n') == counted) {
                return false;
            }
            item = sign;
            taken = 0;
            return true;
        }

        private boolean continues(int sign) {
            String form = formOf(item);
            if (taken >= form.length() || taken >= parts.length) {
                return false;
            }
            int part = partOf(form.charAt(taken), sign);
            if (part == NONE) {
                return false;
            }
            parts[taken] = part;
            taken++;
            if (taken == form.length()) {
                close();
            }
            return true;
        }

        /** What follows an item's first sign: c cells' number, x letter, f figure; empty: no item. */
        private static String formOf(int sign) {
            switch (sign) {
                case 'n':
                    return "c";
                case 'i':
                    return "x";
                case 'k':
                case 'q':
                    return "xx";
                case 't':
                case 'b':
                    return "xxx";
                case 'l':
                case 's':
                    return "xxf";
                default:
                    return "";
            }
        }

        /** What a sign stands for where such a part is due, or NONE. */
        private int partOf(char due, int sign) {
            int figure = sign - '0';
            if (due == 'c') {
                return figure >= FEWEST_CELLS && figure <= MOST_CELLS ? figure : NONE;
            }
            if (due == 'f') {
                return figure >= 0 && figure <= 9 ? figure : NONE;
            }
            int x = sign - 'A';
            return draft.isCell(x) && isNew(x) ? x : NONE;
        }

        private boolean isNew(int x) {
            for (int i = 0; i < taken && i < parts.length; i++) {
                if (parts[i] == x) {
                    return false;
                }
            }
            return true;
        }

        private void close() {
            int x = parts[0];
            int y = parts[1];
            int last = parts[2];
            switch (item) {
                case 'n':
                    draft.build(x);
                    counted = true;
                    break;
                case 'i':
                    draft.setDoor(x, INSIDE, NONE, NONE, 0);
                    break;
                case 'k':
                    draft.setDoor(x, SINGLE, y, NONE, 0);
                    break;
                case 't':
                    draft.setDoor(x, TWO, y, last, 0);
                    break;
                case 'b':
                    draft.setDoor(x, BLIND, y, last, 0);
                    break;
                case 'l':
                    draft.setDoor(x, LATE, y, NONE, last);
                    break;
                case 's':
                    draft.setDoor(x, SPRUNG, y, NONE, last);
                    break;
                default:
                    draft.setQuarrel(x, y, 1);
            }
            item = 0;
        }
    }

    /** The cells, their doors and who quarrels. */
    private static final class Jail {
        private final int[] kinds = new int[MOST_CELLS];
        private final int[] keepers = new int[MOST_CELLS];
        private final int[] otherKeepers = new int[MOST_CELLS];
        private final int[] lates = new int[MOST_CELLS];
        private final int[] foes = new int[MOST_CELLS];
        private int cells;
        private int sprungOnes;
        private int blindOnes;

        int cells() {
            return cells;
        }

        boolean isCell(int x) {
            return x >= 0 && x < cells && x < MOST_CELLS;
        }

        int everyone() {
            return (1 << cells) - 1;
        }

        boolean isSet(int set) {
            return set >= 0 && set <= everyone();
        }

        void build(int n) {
            cells = n >= 0 && n <= MOST_CELLS ? n : 0;
            sprungOnes = 0;
            blindOnes = 0;
            for (int x = 0; x < cells; x++) {
                setDoor(x, SINGLE, x + 1 < cells ? x + 1 : 0, NONE, 0);
                foes[x] = 0;
            }
        }

        void become(Jail other) {
            build(other.cells);
            for (int x = 0; x < cells; x++) {
                setDoor(x, other.kinds[x], other.keepers[x], other.otherKeepers[x], other.lates[x]);
                foes[x] = other.foes[x];
            }
        }

        void setDoor(int x, int kind, int keeper, int other, int late) {
            if (isCell(x)) {
                kinds[x] = kind;
                keepers[x] = keeper;
                otherKeepers[x] = other;
                lates[x] = late;
                int others = ~(1 << x);
                sprungOnes = (sprungOnes & others) | (kind == SPRUNG ? 1 << x : 0);
                blindOnes = (blindOnes & others) | (kind == BLIND ? 1 << x : 0);
            }
        }

        void setKeeper(int x, int y) {
            if (isCell(x)) {
                keepers[x] = y;
            }
        }

        void setQuarrel(int x, int y, int is) {
            if (isCell(x) && isCell(y)) {
                foes[x] = (foes[x] & ~(1 << y)) | (is << y);
                foes[y] = (foes[y] & ~(1 << x)) | (is << x);
            }
        }

        int keeperOf(int x) {
            return isCell(x) ? keepers[x] : NONE;
        }

        int foesOf(int x) {
            return isCell(x) ? foes[x] : 0;
        }

        /** Whether a door is of a kind; a blind one is a two as well, a sprung one a late one. */
        boolean isOf(int x, int kind) {
            if (!isCell(x)) {
                return false;
            }
            int is = kinds[x];
            return is == kind || (kind == TWO && is == BLIND) || (kind == LATE && is == SPRUNG);
        }

        int doorAnswer(int x, int what) {
            if (!isCell(x)) {
                return NONE;
            }
            switch (what) {
                case 0:
                    return kinds[x];
                case 1:
                    return keepers[x];
                case 2:
                    return otherKeepers[x];
                default:
                    return lates[x];
            }
        }

        int markOf(int x, int kind) {
            if (!isCell(x)) {
                return NONE;
            }
            switch (kind) {
                case TWO:
                    return Math.min(keepers[x], otherKeepers[x]);
                case INSIDE:
                    return keysKeptBy(x);
                case LATE:
                    return lates[x];
                case SPRUNG:
                    return keepers[x];
                default:
                    return Math.abs(keepers[x] - otherKeepers[x]);
            }
        }

        private int keysKeptBy(int y) {
            int many = 0;
            for (int x = 0; x < cells; x++) {
                many += keepers[x] == y ? 1 : 0;
                many += otherKeepers[x] == y ? 1 : 0;
            }
            return many;
        }

        /** Whether y may keep the first key of x. */
        boolean mayKeep(int x, int y) {
            return isCell(x) && isCell(y) && x != y && kinds[x] != INSIDE && otherKeepers[x] != y;
        }

        int doorsOf(int kind) {
            int many = 0;
            for (int x = 0; x < cells; x++) {
                many += isOf(x, kind) ? 1 : 0;
            }
            return many;
        }

        int quarrels() {
            int sides = 0;
            for (int x = 0; x < cells; x++) {
                sides += Integer.bitCount(foes[x]);
            }
            return sides / 2;
        }

        int sprungOnes() {
            return sprungOnes;
        }

        /** How many are met from x on, from keeper to keeper; 0: x is no cell. */
        int metFrom(int x) {
            int met = 0;
            int y = x;
            for (int step = 0; step < MOST_CELLS && isCell(y) && ((met >> y) & 1) == 0; step++) {
                met |= 1 << y;
                y = keepers[y];
            }
            return Integer.bitCount(met);
        }

        /** Who is met as many steps behind x as there are cells (then it lies in a ring), or NONE. */
        int farFrom(int x) {
            int y = x;
            for (int step = 0; step < cells && isCell(y); step++) {
                y = keepers[y];
            }
            return y;
        }

        /** Favours to let x out, some being out, only the active ones doing anything; or NONE. */
        int favoursFor(int x, int out, int active) {
            if (!isCell(x) || ((active >> x) & 1) == 0) {
                return NONE;
            }
            if (kinds[x] == INSIDE) {
                return 0;
            }
            if (isOf(x, LATE) && Integer.bitCount(out) < lates[x]) {
                return NONE;
            }
            int favours = keyFavours(x, keepers[x], out, active);
            if (favours == NONE || !isOf(x, TWO)) {
                return favours;
            }
            int more = keyFavours(x, otherKeepers[x], out, active);
            return more == NONE ? NONE : favours + more;
        }

        private int keyFavours(int x, int y, int out, int active) {
            if (!isCell(y)) {
                return NONE;
            }
            int willing = active & ~foes[x] & ~(1 << x);
            if (((willing >> y) & 1) == 0) {
                return NONE;
            }
            int hands = out & willing & ~sprungOnes;
            if (((hands >> y) & 1) == 1) {
                return 1;
            }
            int walls = wallFavours(x, y, willing & ~out);
            boolean carried = hands != 0 && (walls == NONE || walls > 2);
            return carried ? 2 : walls;
        }

        /** Favours to pass a key along the cells, of those who pass; or NONE. */
        private int wallFavours(int x, int y, int passers) {
            int low = x < y ? x : y;
            int high = x < y ? y : x;
            int path = (1 << (high + 1)) - (1 << low);
            boolean allPass = (path & ~(1 << x) & ~passers) == 0;
            return allPass && (path & blindOnes) == 0 ? high - low : NONE;
        }

        long mix(long h) {
            for (int x = 0; x < cells; x++) {
                for (int what = 0; what < DOOR_ANSWERS; what++) {
                    h = 31 * h + doorAnswer(x, what);
                }
                h = 31 * h + foes[x];
            }
            return h;
        }
    }

    /** This evening and the kept ones. */
    private static final class Evenings {
        private final int[] keptOut = new int[KEPT_EVENINGS];
        private final int[] keptFavours = new int[KEPT_EVENINGS];
        private int gone;
        private int favours;

        Evenings() {
            dropKept();
        }

        private void dropKept() {
            for (int k = 0; k < KEPT_EVENINGS; k++) {
                keptOut[k] = MISSING;
                keptFavours[k] = 0;
            }
        }

        void clear() {
            allIn();
            dropKept();
        }

        void allIn() {
            gone = 0;
            favours = 0;
        }

        int whoIsOut() {
            return gone;
        }

        boolean hasOut(int x) {
            return ((gone >> x) & 1) == 1;
        }

        int howManyOut() {
            return Integer.bitCount(gone);
        }

        int favours() {
            return favours;
        }

        void addOut(int x, int more) {
            gone |= 1 << x;
            favours += more;
        }

        boolean isNumber(int k) {
            return k >= 0 && k < KEPT_EVENINGS;
        }

        boolean isKept(int k) {
            return isNumber(k) && keptOut[k] != MISSING;
        }

        void store(int k) {
            if (isNumber(k)) {
                keptOut[k] = gone;
                keptFavours[k] = favours;
            }
        }

        void restore(int k) {
            if (isKept(k)) {
                gone = keptOut[k];
                favours = keptFavours[k];
            }
        }

        long mixKept(long h) {
            for (int k = 0; k < KEPT_EVENINGS; k++) {
                h = 31 * h + keptOut[k];
                if (isKept(k)) {
                    h = 31 * h + keptFavours[k];
                }
            }
            return h;
        }
    }

    /** What was seen in the night. */
    private static final class Sightings {
        private final int[] who = new int[SIGHTINGS];
        private final int[] was = new int[SIGHTINGS];
        private int size;

        int size() {
            return size;
        }

        boolean isFull() {
            return size >= SIGHTINGS;
        }

        int add(int x, int is) {
            if (isFull() || size < 0) {
                return FULL;
            }
            who[size] = x;
            was[size] = is;
            size++;
            return size - 1;
        }

        int dropFrom(int n) {
            int many = size - n;
            if (n < 0 || many < 0) {
                return 0;
            }
            size = n;
            return many;
        }

        boolean fit(int set) {
            for (int i = 0; i < size && i < SIGHTINGS; i++) {
                if (((set >> who[i]) & 1) != was[i]) {
                    return false;
                }
            }
            return true;
        }

        long mix(long h) {
            for (int i = 0; i < size && i < SIGHTINGS; i++) {
                h = 31 * h + who[i];
                h = 31 * h + was[i];
            }
            return h;
        }
    }

    /** The sets reached when only some do anything, with the fewest favours of each. */
    private static final class Reach {
        private final int[] fewest = new int[SETS];
        private int active;

        void fill(Jail jail, int whoActs) {
            active = whoActs >= 0 && whoActs < SETS ? whoActs : 0;
            fewest[0] = 0;
            for (int set = 1; set <= active; set++) {
                fewest[set] = NONE;
            }
            for (int set = 0; set < active; set++) {
                for (int x = 0; x < MOST_CELLS && fewest[set] != NONE; x++) {
                    int next = set | (1 << x);
                    if (next == set || (next & ~active) != 0) {
                        continue;
                    }
                    int more = jail.favoursFor(x, set, active);
                    int favours = fewest[set] + more;
                    if (more != NONE && (fewest[next] == NONE || favours < fewest[next])) {
                        fewest[next] = favours;
                    }
                }
            }
        }

        boolean has(int set) {
            return favoursOf(set) != NONE;
        }

        int favoursOf(int set) {
            return set >= 0 && set <= active ? fewest[set] : NONE;
        }

        int howMany() {
            int many = 0;
            for (int set = 0; set <= active; set++) {
                many += has(set) ? 1 : 0;
            }
            return many;
        }

        int inSome() {
            int some = 0;
            for (int set = 0; set <= active; set++) {
                some |= has(set) ? set : 0;
            }
            return some;
        }

        /** The first of the sets of the fewest favours that have all of a set out, or NONE. */
        int cheapestWith(int part) {
            int best = NONE;
            for (int set = 0; set <= active; set++) {
                boolean fits = fewest[set] != NONE && (part & ~set) == 0;
                if (fits && (best == NONE || fewest[set] < fewest[best])) {
                    best = set;
                }
            }
            return best;
        }

        /** The fewest favours by which one is out, or NONE. */
        int leastFor(int x) {
            return favoursOf(cheapestWith(1 << x));
        }

        int greatest() {
            int best = 0;
            for (int set = 1; set <= active; set++) {
                if (has(set) && isGreater(set, best)) {
                    best = set;
                }
            }
            return best;
        }

        private boolean isGreater(int set, int than) {
            int more = Integer.bitCount(set) - Integer.bitCount(than);
            return more > 0 || (more == 0 && favoursOf(set) < favoursOf(than));
        }
    }

    /** The orders in which just a set is let out. */
    private static final class Orders {
        private final int[] numbers = new int[SETS];
        private final int[] rest = new int[SETS];
        private final int[] nexts = new int[SETS];
        private final int[] steps = new int[MOST_CELLS];

        int howMany(Jail jail, int set) {
            if (set < 0 || set >= SETS) {
                return 0;
            }
            numbers[0] = 1;
            for (int part = 1; part <= set; part++) {
                numbers[part] = (part & ~set) == 0 ? numberTo(jail, part) : 0;
            }
            return numbers[set];
        }

        private int numberTo(Jail jail, int set) {
            int many = 0;
            for (int x = 0; x < MOST_CELLS; x++) {
                int before = set & ~(1 << x);
                if (before != set && jail.favoursFor(x, before, jail.everyone()) != NONE) {
                    many += numbers[before];
                }
            }
            return many;
        }

        /** The fewest favours to just a set, or NONE; then the steps are the first such order. */
        int findFirst(Jail jail, int set) {
            if (set < 0 || set >= SETS) {
                return NONE;
            }
            rest[set] = 0;
            for (int part = set - 1; part >= 0; part--) {
                rest[part] = (part & ~set) == 0 ? fewestFrom(jail, part, set) : NONE;
            }
            if (rest[0] != NONE) {
                follow(set);
            }
            return rest[0];
        }

        private int fewestFrom(Jail jail, int part, int set) {
            int best = NONE;
            for (int x = 0; x < MOST_CELLS; x++) {
                int favours = favoursBy(jail, part, x, set);
                if (favours != NONE && (best == NONE || favours < best)) {
                    best = favours;
                    nexts[part] = x;
                }
            }
            return best;
        }

        /** The fewest favours from a part of the set to all of it, x being let out next; or NONE. */
        private int favoursBy(Jail jail, int part, int x, int set) {
            int next = part | (1 << x);
            if (next == part || (next & ~set) != 0 || rest[next] == NONE) {
                return NONE;
            }
            int favours = jail.favoursFor(x, part, jail.everyone());
            return favours == NONE ? NONE : favours + rest[next];
        }

        private void follow(int set) {
            int part = 0;
            for (int i = 0; i < MOST_CELLS && part != set; i++) {
                steps[i] = nexts[part];
                part |= 1 << steps[i];
            }
        }

        int stepAt(int i) {
            return i >= 0 && i < MOST_CELLS ? steps[i] : NONE;
        }
    }

    /** Deals keys anew on a trial jail, and trades them in the jail itself. */
    private static final class Dealer {
        private final Jail trial = new Jail();
        private final Reach reach = new Reach();
        private final int[] firstDeal = new int[DEAL_CELLS];
        private final int[] wanted = new int[MOST_CELLS];

        /** How many deals let no band of b out by itself; the first of them is remembered. */
        int dealAll(Jail jail, int b) {
            int cells = jail.cells();
            if (cells > DEAL_CELLS) {
                return 0;
            }
            trial.become(jail);
            int numbers = 1;
            for (int x = 0; x < cells; x++) {
                numbers *= cells;
            }
            int many = 0;
            for (int number = 0; number < numbers; number++) {
                if (isDeal(number, cells) && freesNoneOf(b)) {
                    if (many == 0) {
                        rememberDeal();
                    }
                    many++;
                }
            }
            return many;
        }

        /**
         * Whether a number's figures (as many as cells, to the base of the cells, the first cell's
         * ahead) are keepers that may be; then the trial jail has them.
         */
        private boolean isDeal(int number, int cells) {
            if (cells < 1) {
                return false;
            }
            int left = number;
            for (int x = cells - 1; x >= 0; x--) {
                int y = left % cells;
                left /= cells;
                // An inside door has no key: one figure stands for it, so that no deal counts twice.
                boolean fits = trial.isOf(x, INSIDE) ? y == 0 : trial.mayKeep(x, y);
                if (!fits) {
                    return false;
                }
                trial.setKeeper(x, trial.isOf(x, INSIDE) ? NONE : y);
            }
            return true;
        }

        private boolean freesNoneOf(int b) {
            for (int set = 1; set <= trial.everyone(); set++) {
                if (Integer.bitCount(set) != b) {
                    continue;
                }
                reach.fill(trial, set);
                if (reach.has(set)) {
                    return false;
                }
            }
            return true;
        }

        private void rememberDeal() {
            for (int x = 0; x < DEAL_CELLS; x++) {
                firstDeal[x] = trial.keeperOf(x);
            }
        }

        int firstKeeperOf(int x) {
            return x >= 0 && x < DEAL_CELLS ? firstDeal[x] : NONE;
        }

        /** Whether there was a trade that both keepers would: then the first one is done. */
        boolean tradeOnce(Jail jail) {
            reach.fill(jail, jail.everyone());
            for (int x = 0; x < MOST_CELLS; x++) {
                wanted[x] = favoursOrNever(x);
            }
            for (int a = 0; a < jail.cells(); a++) {
                for (int b = a + 1; b < jail.cells(); b++) {
                    if (mayTrade(jail, a, b) && helpsBoth(jail, a, b)) {
                        return true;
                    }
                }
            }
            return false;
        }

        private boolean mayTrade(Jail jail, int a, int b) {
            int p = jail.keeperOf(a);
            int q = jail.keeperOf(b);
            return p != q && jail.mayKeep(a, q) && jail.mayKeep(b, p);
        }

        /** Trades two keys; if that does not help both who kept them, they are traded back. */
        private boolean helpsBoth(Jail jail, int a, int b) {
            int p = jail.keeperOf(a);
            int q = jail.keeperOf(b);
            jail.setKeeper(a, q);
            jail.setKeeper(b, p);
            reach.fill(jail, jail.everyone());
            if (wouldTrade(p) && wouldTrade(q)) {
                return true;
            }
            jail.setKeeper(a, p);
            jail.setKeeper(b, q);
            return false;
        }

        private boolean wouldTrade(int x) {
            return x >= 0 && x < MOST_CELLS && favoursOrNever(x) < wanted[x];
        }

        private int favoursOrNever(int x) {
            int favours = reach.leastFor(x);
            return favours == NONE ? NEVER_OUT : favours;
        }
    }
}
