/** Promises 24 to 32: who can be out. */
final class OutTest {
    private static final int N = CellKeys.NONE;
    private static final int BAD = CellKeys.BAD;
    /** A is out for nothing; D by A, then B and C by D, cost one each. */
    private static final String CHAIN = "n4 iA kBD kCD kDA";
    /** A, then B, then C, and not otherwise. */
    private static final String LINE = "n3 iA lBA1 lCA2";
    /** C shuts A in, A and B shut out each other: two sets of two are the greatest. */
    private static final String SHUT = "n3 sAC0 sBA0 sCB0";
    private static final Due D = new Due();

    public static void main(String[] args) {
        leasts();
        orders();
        reacheds();
        mosts();
        evers();
        ways();
        rings();
        ills();
        withouts();
        refusals();
        noCells();
        eveningsDoNotMatter();
        D.end();
    }

    private static void tells(CellKeys k, String call, int got, int due, int asked) {
        D.due(call, got, due);
        D.due(call + " tells", k.asked(), asked);
    }

    private static void leasts() {
        CellKeys k = Due.jail(CHAIN);
        tells(k, "least(0)", k.least(0), 0, 0);
        tells(k, "least(2), of three sets", k.least(2), 2, 2);
        tells(k, "least(6)", k.least(6), 3, 6);
        tells(k, "least(14), A helps", k.least(14), 3, 15);
        tells(k, "least(8)", k.least(8), 1, 9);
        tells(k, "least(9)", k.least(9), 1, 9);
        k = Due.jail(LINE);
        tells(k, "least(4)", k.least(4), 2, 7);
        k = Due.jail("n2 lAB9");
        tells(k, "least(2)", k.least(2), 1, 2);
        tells(k, "least(1)", k.least(1), N, 2);
        tells(k, "least(3)", k.least(3), N, 2);
    }

    private static void rowIs(CellKeys k, int r, int... places) {
        for (int i = 0; i < places.length; i++) {
            k.at(r, i);
            D.due("place " + i + " of row " + r, k.asked(), places[i]);
        }
        D.due("size of row " + r, k.at(r, places.length), CellKeys.FINDING);
    }

    private static void orders() {
        CellKeys k = Due.jail(CHAIN);
        k.row(0, 9);
        D.due("order(15, 0)", k.order(15, 0), 3);
        rowIs(k, 0, 0, 2, 3, 1);
        D.due("order(14, 1)", k.order(14, 1), 4);
        rowIs(k, 1, 2, 3, 1);
        D.due("order(0, 0)", k.order(0, 0), 0);
        rowIs(k, 0);
        D.due("order(8, 0), just by walls", k.order(8, 0), 3);
        rowIs(k, 0, 3);
        k = Due.jail(LINE);
        D.due("order(7, 5)", k.order(7, 5), 2);
        rowIs(k, 5, 0, 1, 2);
        D.due("order(6, 5)", k.order(6, 5), N);
        rowIs(k, 5, 0, 1, 2);
        D.due("order(6, 4)", k.order(6, 4), N);
        D.due("no row", k.count(6), 1);
    }

    private static void reacheds() {
        CellKeys k = Due.jail(CHAIN);
        tells(k, "reached, CHAIN", k.reached(), 16, 4);
        k = Due.jail(LINE);
        tells(k, "reached, LINE", k.reached(), 4, 3);
        k = Due.jail(SHUT);
        tells(k, "reached, SHUT", k.reached(), 6, 2);
        k = Due.jail("n2 qAB");
        tells(k, "reached, none", k.reached(), 1, 0);
    }

    private static void mosts() {
        CellKeys k = Due.jail(CHAIN);
        tells(k, "most, CHAIN", k.most(), 15, 3);
        k = Due.jail(SHUT);
        tells(k, "most, the fewest favours", k.most(), 6, 2);
        k = Due.jail("n2 sAB0 sBA0");
        tells(k, "most, the least bits", k.most(), 1, 1);
        k = Due.jail("n2 qAB");
        tells(k, "most, none", k.most(), 0, 0);
    }

    private static void evers() {
        CellKeys k = Due.jail(LINE);
        tells(k, "ever, LINE", k.ever(), 7, 0);
        k = Due.jail(SHUT);
        tells(k, "ever, SHUT", k.ever(), 7, 0);
        k = Due.jail("n2 lAB9");
        tells(k, "ever, not A", k.ever(), 2, 1);
        k = Due.jail("n8 iH");
        k.key(6, 0);
        for (int x = 0; x < 7; x++) {
            k.quarrel(7, x, 1);
            k.quarrel(x, (x + 1) % 7, 1);
            k.quarrel(6, 0, 1);
        }
        tells(k, "ever, H only", k.ever(), 128, 127);
    }

    private static void ways() {
        CellKeys k = Due.jail(CHAIN);
        D.due("ways(15)", k.ways(15), 24);
        D.due("ways(0)", k.ways(0), 1);
        k = Due.jail(LINE);
        D.due("ways(7)", k.ways(7), 1);
        D.due("ways(6)", k.ways(6), 0);
        k = Due.jail(SHUT);
        D.due("ways(5)", k.ways(5), 1);
        D.due("ways(6)", k.ways(6), 1);
        D.due("ways(7)", k.ways(7), 0);
        k = Due.jail("n8 iA iB iC iD iE iF iG iH");
        D.due("ways(255)", k.ways(255), 40320);
        D.due("ways(254)", k.ways(254), 5040);
        D.due("ways(128)", k.ways(128), 1);
    }

    private static void rings() {
        CellKeys k = Due.jail("n6 kAB kBC kCB iD kED kFE");
        tells(k, "ring(0), a tail", k.ring(0), 3, 2);
        tells(k, "ring(1)", k.ring(1), 2, 2);
        tells(k, "ring(3), inside", k.ring(3), 1, 0);
        tells(k, "ring(5), to inside", k.ring(5), 3, 0);
        k = Due.jail("n3 tABC tBCA kCB");
        tells(k, "ring(0), the first keys", k.ring(0), 3, 2);
        k = Due.jail("n8");
        tells(k, "ring(3) of all", k.ring(3), 8, 8);
        k = Due.jail("n8 kHG");
        tells(k, "ring(0), a long tail", k.ring(0), 8, 2);
    }

    private static void ills() {
        CellKeys k = Due.jail(CHAIN + " qAC");
        tells(k, "ill(2)", k.ill(2), 1, 3);
        tells(k, "ill(0), the ill one helps", k.ill(0), 1, 3);
        tells(k, "ill(1)", k.ill(1), 0, 0);
        k = Due.jail("n3 iA iB iC");
        tells(k, "ill(0), the least", k.ill(0), 0, 1);
        tells(k, "ill(2), the least", k.ill(2), 0, 0);
        k = Due.jail("n3 iA sBA0 kCA");
        tells(k, "ill(0), not by a sprung door", k.ill(0), 1, 2);
        k = Due.jail("n2 iA sBA0");
        k.ill(1);
        tells(k, "ill(0), none", k.ill(0), N, 0);
        k = Due.jail("n3 kAC kBC qAB qAC");
        k.row(0, 1);
        k.lay(0, 0, 5);
        k.at(0, 0);
        tells(k, "ill(0), all quarrel", k.ill(0), N, 5);
    }

    private static void withouts() {
        CellKeys k = Due.jail(LINE);
        tells(k, "without(0)", k.without(0), 3, 6);
        tells(k, "without(1)", k.without(1), 2, 4);
        tells(k, "without(2)", k.without(2), 1, 0);
        k = Due.jail("n3 kAC iB");
        tells(k, "without(1), no walls", k.without(1), 7, 5);
        k = Due.jail("n3 tABC iB iC");
        tells(k, "without(2), no second key", k.without(2), 6, 1);
        D.due("the jail stays", k.reached(), 8);
    }

    private static void refusals() {
        CellKeys k = Due.jail(LINE);
        k.reached();
        for (int set : new int[] {-1, 8, 255, Integer.MIN_VALUE, Integer.MAX_VALUE}) {
            D.due("least(" + set + ")", k.least(set), BAD);
            D.due("order(" + set + ", 0)", k.order(set, 0), BAD);
            D.due("ways(" + set + ")", k.ways(set), BAD);
        }
        D.due("order(7, 6)", k.order(7, 6), BAD);
        D.due("order(7, -1)", k.order(7, -1), BAD);
        for (int x : new int[] {-1, 3, 32, Integer.MIN_VALUE, Integer.MAX_VALUE}) {
            D.due("ring(" + x + ")", k.ring(x), BAD);
            D.due("ill(" + x + ")", k.ill(x), BAD);
            D.due("without(" + x + ")", k.without(x), BAD);
        }
        D.due("asked() stays", k.asked(), 3);
    }

    private static void noCells() {
        CellKeys k = new CellKeys();
        tells(k, "least(0)", k.least(0), 0, 0);
        D.due("least(1)", k.least(1), BAD);
        D.due("order(0, 0)", k.order(0, 0), 0);
        D.due("a row", k.count(6), 1);
        tells(k, "reached()", k.reached(), 1, 0);
        tells(k, "most()", k.most(), 0, 0);
        tells(k, "ever()", k.ever(), 0, 0);
        D.due("ways(0)", k.ways(0), 1);
    }

    private static void eveningsDoNotMatter() {
        CellKeys k = Due.jail(CHAIN);
        k.let(2);
        k.let(1);
        D.due("least(14), some out", k.least(14), 3);
        D.due("reached(), some out", k.reached(), 16);
        D.due("order(15, 0), some out", k.order(15, 0), 3);
        D.due("ways(3), some out", k.ways(3), 2);
        D.due("ill(2), some out", k.ill(2), 0);
        D.due("without(0), some out", k.without(0), 12);
        D.due("band(9), some out", k.band(9), 1);
        D.due("culprits(99), some out", k.culprits(99), 15);
        D.due("the evening stays", k.out(), 6);
    }
}
