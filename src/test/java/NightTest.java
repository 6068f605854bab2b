/** Promises 38 to 41: nights. */
final class NightTest {
    private static final int NOUGHT = 4;
    private static final int BAD = CellKeys.BAD;
    /** A for nothing, then B by one favour, then C by one more; no other sets. */
    private static final String LINE = "n3 iA lBA1 lCA2";
    private static final Due D = new Due();

    public static void main(String[] args) {
        sawAndForget();
        culprits();
        odds();
        refusals();
        noCells();
        D.end();
    }

    private static void sawAndForget() {
        CellKeys k = Due.jail(LINE);
        for (int i = 0; i < 8; i++) {
            D.due("saw, number " + i, k.saw(i % 3, i % 2), i);
            D.due("seen", k.count(5), i + 1);
        }
        D.due("saw, a ninth", k.saw(0, 1), CellKeys.FULL);
        D.due("saw, a ninth of none", k.saw(3, 1), BAD);
        D.due("forget(9)", k.forget(9), BAD);
        D.due("forget(-1)", k.forget(-1), BAD);
        D.due("forget(8)", k.forget(8), 0);
        D.due("forget(5)", k.forget(5), 3);
        D.due("forget(6)", k.forget(6), BAD);
        D.due("seen", k.count(5), 5);
        D.due("saw", k.saw(2, 1), 5);
        D.due("forget(0)", k.forget(0), 6);
        D.due("forget(0) again", k.forget(0), 0);
        D.due("forget(1)", k.forget(1), BAD);
        D.due("seen", k.count(5), 0);
    }

    private static void tells(CellKeys k, String call, int got, int due, int asked) {
        D.due(call, got, due);
        D.due(call + " tells", k.asked(), asked);
    }

    private static void culprits() {
        CellKeys k = Due.jail(LINE);
        tells(k, "culprits(0)", k.culprits(0), 1, 0);
        tells(k, "culprits(1)", k.culprits(1), 3, 0);
        tells(k, "culprits(2)", k.culprits(2), 7, 0);
        k.saw(1, 1);
        tells(k, "culprits(99), B out", k.culprits(99), 7, 3);
        tells(k, "culprits(1), B out", k.culprits(1), 3, 3);
        tells(k, "culprits(0), B out", k.culprits(0), CellKeys.NONE, 3);
        k.saw(2, 0);
        tells(k, "culprits(99), B out, C in", k.culprits(99), 3, 3);
        k.saw(2, 1);
        tells(k, "culprits(99), C in and out", k.culprits(99), CellKeys.NONE, 3);
        k.forget(0);
        k.saw(0, 0);
        tells(k, "culprits(99), A in", k.culprits(99), 0, 0);
    }

    private static void odds(CellKeys k, int f, int x, int due, int upper, int lower) {
        D.due("odds(" + f + ", " + x + ")", k.odds(f, x), due);
        D.due("upper()", k.upper(), upper);
        D.due("lower()", k.lower(), lower);
    }

    private static void odds() {
        CellKeys k = Due.jail(LINE);
        D.due("upper() before", k.upper(), 0);
        D.due("lower() before", k.lower(), 1);
        odds(k, 99, 0, 3, 3, 4);
        odds(k, 99, 1, 2, 1, 2);
        odds(k, 99, 2, 1, 1, 4);
        odds(k, 1, 0, 2, 2, 3);
        odds(k, 1, 2, 0, 0, 1);
        k.saw(0, 1);
        odds(k, 0, 0, 1, 1, 1);
        odds(k, 99, 1, 2, 2, 3);
        k.saw(0, 0);
        D.found(k, NOUGHT, "odds of none", 0, k.odds(99, 1));
        D.due("upper() stays", k.upper(), 2);
        D.due("lower() stays", k.lower(), 3);
        D.due("asked() stays", k.asked(), 0);
    }

    private static void refusals() {
        CellKeys k = Due.jail(LINE);
        D.due("saw(3, 0)", k.saw(3, 0), BAD);
        D.due("saw(-1, 0)", k.saw(-1, 0), BAD);
        D.due("saw(0, 2)", k.saw(0, 2), BAD);
        D.due("saw(0, -1)", k.saw(0, -1), BAD);
        D.due("culprits(-1)", k.culprits(-1), BAD);
        D.due("culprits(100)", k.culprits(100), BAD);
        D.due("odds(-1, 0)", k.odds(-1, 0), BAD);
        D.due("odds(100, 0)", k.odds(100, 0), BAD);
        D.due("odds(0, 3)", k.odds(0, 3), BAD);
        D.due("odds(0, -1)", k.odds(0, -1), BAD);
        D.due("seen", k.count(5), 0);
    }

    private static void noCells() {
        CellKeys k = new CellKeys();
        D.due("saw", k.saw(0, 0), BAD);
        D.due("forget", k.forget(0), 0);
        tells(k, "culprits", k.culprits(0), 0, 0);
        D.due("odds", k.odds(0, 0), BAD);
    }
}
