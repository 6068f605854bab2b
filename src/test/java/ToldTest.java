/** Promises 42 to 48: what is told. */
final class ToldTest {
    private static final Due D = new Due();

    public static void main(String[] args) {
        constants();
        asked();
        askedStays();
        counts();
        findings();
        badIsNoFinding();
        digestOfNone();
        digestOfAll();
        D.end();
    }

    private static void constants() {
        D.due("BAD", CellKeys.BAD, -1);
        D.due("FULL", CellKeys.FULL, -2);
        D.due("FINDING", CellKeys.FINDING, -3);
        D.due("STATE", CellKeys.STATE, -4);
        D.due("SPENT", CellKeys.SPENT, -6);
        D.due("NONE", CellKeys.NONE, -9);
    }

    /** Each call that tells by asked() tells something else than the one before. */
    private static void asked() {
        D.due("asked() before", new CellKeys().asked(), 0);
        CellKeys k = Due.jail("n4 iA kBA lCB1 sDC8 qBD");
        Due.fill(k, 0, 40, 41);
        k.at(0, 1);
        D.due("at", k.asked(), 41);
        k.lay(0, 0, 50);
        D.due("lay", k.asked(), 40);
        k.mean(0);
        D.due("mean", k.asked(), 45);
        k.door(3, 3);
        D.due("door", k.asked(), 8);
        k.let(0);
        k.let(2);
        k.out();
        D.due("out", k.asked(), 1);
        k.reached();
        D.due("reached", k.asked(), 3);
        k.least(4);
        D.due("least", k.asked(), 5);
        k.ever();
        D.due("ever", k.asked(), 8);
        k.ring(0);
        D.due("ring", k.asked(), 0);
        k.most();
        D.due("most", k.asked(), 2);
        k.without(1);
        D.due("without", k.asked(), 4);
        k.bands(2);
        D.due("bands", k.asked(), 3);
        k.ill(0);
        D.due("ill", k.asked(), 1);
        Due.fill(k, 1, 0, 1, 2);
        k.lets(1);
        D.due("lets", k.asked(), 2);
        k.saw(0, 1);
        k.culprits(99);
        D.due("culprits", k.asked(), 1);
        k.digest();
        D.due("digest", k.asked(), 1);
        k.jail(3);
        D.due("jail", k.asked(), 1);
    }

    /** Calls that do not tell by asked() leave it. */
    private static void askedStays() {
        CellKeys k = Due.jail("n3 iA");
        Due.fill(k, 0, 7);
        k.at(0, 0);
        k.row(1, 3);
        k.copy(0, 0, 1, 0, 1);
        k.tear(1);
        k.text(0, 2);
        k.put(0, 0, 3);
        k.fault(0);
        k.mark(0, 2);
        k.key(1, 0);
        k.quarrel(0, 1, 1);
        k.foes(0);
        k.can(0);
        k.let(0);
        k.keep(0);
        k.on(0);
        k.bell();
        k.order(1, 1);
        k.ways(1);
        k.band(1);
        k.deals(2, 2);
        k.dealt(2);
        k.trades();
        k.saw(0, 1);
        k.odds(99, 0);
        k.forget(0);
        k.upper();
        k.lower();
        k.count(0);
        k.finding();
        k.findings(1);
        k.digest();
        D.due("asked() stays", k.asked(), 7);
    }

    private static void counts() {
        CellKeys k = Due.jail("n8 tABC bBCD bCDE lDE0 sEF0 iF qAB qBC qCA");
        k.let(5);
        k.let(4);
        k.saw(0, 1);
        k.row(0, 0);
        k.row(5, 3);
        k.text(0, 0);
        int[] dues = {8, 2, 3, 2, 3, 1, 2, 2};
        for (int what = 0; what < 8; what++) {
            D.due("count(" + what + ")", k.count(what), dues[what]);
        }
        D.due("count(8)", k.count(8), CellKeys.BAD);
        D.due("count(-1)", k.count(-1), CellKeys.BAD);
    }

    private static void findings() {
        CellKeys k = new CellKeys();
        D.due("finding() before", k.finding(), 0);
        for (int f = 1; f <= 5; f++) {
            D.due("findings(" + f + ") before", k.findings(f), 0);
        }
        k.row(0, -1);
        k.row(0, 0);
        k.mean(0);
        k.mean(0);
        k.at(0, 0);
        k.tear(1);
        D.due("finding()", k.finding(), 1);
        k.text(0, -1);
        D.due("finding()", k.finding(), 5);
        int[] dues = {1, 1, 0, 2, 2};
        for (int f = 1; f <= 5; f++) {
            D.due("findings(" + f + ")", k.findings(f), dues[f - 1]);
        }
        D.due("findings(0)", k.findings(0), CellKeys.BAD);
        D.due("findings(6)", k.findings(6), CellKeys.BAD);
        D.due("findings(-1)", k.findings(-1), CellKeys.BAD);
    }

    private static void badIsNoFinding() {
        CellKeys k = Due.jail("n6");
        k.at(0, 0);
        k.row(9, 9);
        k.deals(1, 1);
        k.let(0);
        k.let(0);
        for (int i = 0; i < 9; i++) {
            k.saw(0, 0);
        }
        D.due("finding() is the latest finding", k.finding(), 1);
        int sum = 0;
        for (int f = 1; f <= 5; f++) {
            sum += k.findings(f);
        }
        D.due("one finding", sum, 1);
    }

    private static long hash(int... values) {
        long h = 17;
        for (int v : values) {
            h = 31 * h + v;
        }
        return h;
    }

    private static void digestOfNone() {
        D.due("digest() before", new CellKeys().digest(),
                hash(0, 0, 0, 0, 0, 0, 0, 0, 0, 0, -1, -1, -1, -1, -1, -1, -1, -1, -1, -1, -1, -1, -1));
    }

    private static void digestOfAll() {
        CellKeys k = new CellKeys();
        Due.write(k, 1, "n3 iB sCA2 qBC");
        k.jail(1);
        k.let(1);
        k.keep(2);
        k.let(0);
        k.keep(0);
        k.saw(2, 1);
        k.saw(0, 0);
        Due.fill(k, 3, -4, 5);
        k.row(4, 0);
        k.put(1, 0, -1);
        k.at(3, 1);
        k.row(9, 9);
        D.due("digest()", k.digest(), hash(3, 2, 0, 1, 1, 2, 2, 1, 3, 1,
                0, 1, -9, 0, 0, 2, -9, -9, 0, 4, 4, 0, -9, 2, 2,
                2, 1, 0, 0, 3, 1, -1, 2, 0,
                -1, -1, -1, 2, -4, 5, 0, -1,
                -1, 14, -1, 51, 32, 105, 66, 32, 115, 67, 65, 50, 32, 113, 66, 67, -1, -1));
        D.due("asked() stays", k.asked(), 5);
        k.at(8, 8);
        D.due("digest() again", k.digest(), k.digest());
    }
}
