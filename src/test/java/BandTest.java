/** Promises 33 to 37: bands, deals, trades. */
final class BandTest {
    private static final int NOTHING = 1, UNLIKE = 3, SIZE = 5;
    private static final int N = CellKeys.NONE;
    private static final int BAD = CellKeys.BAD;
    private static final Due D = new Due();

    public static void main(String[] args) {
        band();
        bands();
        deals();
        dealsOfKinds();
        dealsRefused();
        dealt();
        dealtRefused();
        trades();
        noTrades();
        noCells();
        D.end();
    }

    private static void tells(CellKeys k, String call, int got, int due, int asked) {
        D.due(call, got, due);
        D.due(call + " tells", k.asked(), asked);
    }

    private static void band() {
        CellKeys k = Due.jail("n4 iA kBD kCD kDA");
        D.due("band(1)", k.band(1), 0);
        D.due("band(9)", k.band(9), 1);
        D.due("band(15)", k.band(15), 3);
        D.due("band(8), a key of others", k.band(8), N);
        D.due("band(10), a cell of others", k.band(10), N);
        D.due("band(11)", k.band(11), 2);
        D.due("band(14)", k.band(14), N);
        D.due("band(0)", k.band(0), BAD);
        D.due("band(16)", k.band(16), BAD);
        D.due("band(-1)", k.band(-1), BAD);
        D.due("band(MIN)", k.band(Integer.MIN_VALUE), BAD);
        k = Due.jail("n3 iA lBA1 kCA");
        D.due("band(2), too few out", k.band(2), N);
        D.due("band(6)", k.band(6), N);
        D.due("band(3)", k.band(3), 1);
        k = Due.jail("n3 tABC kBA iC");
        D.due("band of a two's one keeper", k.band(3), N);
        D.due("band of a two", k.band(5), N);
        D.due("band of all", k.band(7), 3);
        k = Due.jail("n4 iA kBA kCD qBA");
        D.due("band, a quarrel", k.band(3), N);
    }

    private static void bands() {
        CellKeys k = Due.jail("n4 iA kDA kBC kCB");
        tells(k, "bands(1)", k.bands(1), 1, 1);
        tells(k, "bands(2), the least bits first", k.bands(2), 2, 6);
        tells(k, "bands(3)", k.bands(3), 1, 7);
        tells(k, "bands(4)", k.bands(4), 1, 15);
        D.due("bands(5)", k.bands(5), BAD);
        D.due("bands(0)", k.bands(0), BAD);
        D.due("bands(-1)", k.bands(-1), BAD);
        D.due("bands(9)", k.bands(9), BAD);
        D.due("asked() stays", k.asked(), 15);
        k = Due.jail("n8");
        tells(k, "bands(8)", k.bands(8), 1, 255);
        tells(k, "bands(7)", k.bands(7), 0, N);
        k = Due.jail("n8 iA iB iC iD iE iF iG iH");
        tells(k, "bands(4) of all", k.bands(4), 70, 15);
    }

    private static void rowIs(CellKeys k, int r, int... places) {
        for (int i = 0; i < places.length; i++) {
            k.at(r, i);
            D.due("place " + i + " of row " + r, k.asked(), places[i]);
        }
        D.due("size of row " + r, k.at(r, places.length), CellKeys.FINDING);
    }

    private static void deals() {
        CellKeys k = Due.jail("n3");
        D.due("deals(1, 0)", k.deals(1, 0), 8);
        rowIs(k, 0, 1, 0, 0);
        D.due("deals(2, 0)", k.deals(2, 0), 4);
        rowIs(k, 0, 1, 2, 0);
        D.due("deals(3, 0)", k.deals(3, 0), 0);
        rowIs(k, 0, 1, 2, 0);
        D.due("deals(3, 1), no row", k.deals(3, 1), 0);
        D.due("one row", k.count(6), 1);
        k.door(0, 1);
        D.due("the keys stay", k.asked(), 1);
        k.door(1, 1);
        D.due("the keys stay", k.asked(), 2);
        k.quarrel(0, 1, 1);
        k.quarrel(0, 2, 1);
        k.quarrel(1, 2, 1);
        D.due("deals(3, 0), quarrels", k.deals(3, 0), 8);
    }

    private static void dealsOfKinds() {
        CellKeys k = Due.jail("n3 tABC iB");
        k.row(0, 1);
        D.due("deals(1, 0), inside", k.deals(1, 0), 0);
        rowIs(k, 0, 0);
        D.due("deals(2, 0)", k.deals(2, 0), 1);
        rowIs(k, 0, 1, N, 0);
        D.due("deals(3, 0)", k.deals(3, 0), 0);
        rowIs(k, 0, 1, N, 0);
        k = Due.jail("n5");
        D.due("deals(1, 5)", k.deals(1, 5), 1024);
        rowIs(k, 5, 1, 0, 0, 0, 0);
        k = Due.jail("n5 bABC tBAC tCAB bDAB tEAB");
        D.due("second keys stay", k.deals(1, 5), 243);
        rowIs(k, 5, 1, 0, 0, 0, 0);
        k = Due.jail("n4 lAB1 lBC1 sCD1 lDA1");
        D.due("all late", k.deals(4, 2), 81);
        rowIs(k, 2, 1, 0, 0, 0);
    }

    private static void dealsRefused() {
        CellKeys k = Due.jail("n6");
        D.due("deals(1, 0), 6 cells", k.deals(1, 0), CellKeys.SPENT);
        D.due("deals(5, 0), 6 cells", k.deals(5, 0), CellKeys.SPENT);
        D.due("deals(6, 0)", k.deals(6, 0), BAD);
        D.due("deals(0, 0)", k.deals(0, 0), BAD);
        D.due("deals(1, 6)", k.deals(1, 6), BAD);
        D.due("deals(1, -1)", k.deals(1, -1), BAD);
        k = Due.jail("n3");
        D.due("deals(4, 0), 3 cells", k.deals(4, 0), BAD);
        D.due("deals(-1, 0), 3 cells", k.deals(-1, 0), BAD);
        D.due("no row", k.count(6), 0);
    }

    private static void keepersAre(CellKeys k, int... keepers) {
        for (int x = 0; x < keepers.length; x++) {
            k.door(x, 1);
            D.due("keeper of " + x, k.asked(), keepers[x]);
        }
    }

    private static void dealt() {
        CellKeys k = Due.jail("n4 iA tBCD sCA1");
        Due.fill(k, 0, 77, 0, 1, 2);
        D.due("dealt(0)", k.dealt(0), 1);
        keepersAre(k, N, 0, 1, 2);
        k.door(1, 2);
        D.due("the other keeper stays", k.asked(), 3);
        k.door(2, 3);
        D.due("f stays", k.asked(), 1);
        k.deals(2, 1);
        D.due("as deals() told", k.dealt(1), 1);
    }

    private static void dealtRefused() {
        CellKeys k = Due.jail("n4 iA tBCD");
        Due.fill(k, 0, 0, 0, 1);
        D.found(k, SIZE, "dealt: too few", 0, k.dealt(0));
        Due.fill(k, 0, 0, 0, 9, 2, 0);
        D.found(k, SIZE, "dealt: too many", 1, k.dealt(0));
        Due.fill(k, 0, 0, 3, 1, 2);
        D.found(k, UNLIKE, "dealt: keeps the other", 0, k.dealt(0));
        Due.fill(k, 0, 0, 0, 1, 3);
        D.found(k, UNLIKE, "dealt: lives there", 1, k.dealt(0));
        Due.fill(k, 0, 0, 0, 1, 4);
        D.found(k, UNLIKE, "dealt: none", 2, k.dealt(0));
        Due.fill(k, 0, 0, 0, 1, -1);
        D.found(k, UNLIKE, "dealt: -1", 3, k.dealt(0));
        keepersAre(k, N, 2, 3, 0);
        D.found(k, NOTHING, "dealt: missing", 0, k.dealt(1));
        D.due("dealt(6)", k.dealt(6), BAD);
        D.due("dealt(-1)", k.dealt(-1), BAD);
    }

    private static void trades() {
        CellKeys k = Due.jail("n4 kAC lBA1 lCD1 kDB");
        D.due("trades()", k.trades(), 1);
        keepersAre(k, 1, 0, 3, 2);
        D.due("trades() again", k.trades(), 0);
        k = Due.jail("n4 kAC lBA1 lCD1 kDB qAC qBD");
        D.due("trades(), none could", k.trades(), 1);
        keepersAre(k, 1, 0, 3, 2);
        k = Due.jail("n4 sAC0 lBA1 lCD1 sDB0 iA");
        keepersAre(k, N, 0, 3, 1);
        D.due("inside ones do not trade", k.trades(), 0);
        keepersAre(k, N, 0, 3, 1);
    }

    private static void noTrades() {
        CellKeys k = Due.jail("n4 tACB lBA1 lCD1 kDB");
        D.due("keeps the other one", k.trades(), 0);
        keepersAre(k, 2, 0, 3, 1);
        k = Due.jail("n4 kAC lBA1 lCD1 tDBC");
        D.due("keeps the other one", k.trades(), 0);
        k = Due.jail("n4 kAC lBA1 kCD kDB");
        D.due("only one of both would", k.trades(), 0);
        k = Due.jail("n4 kAC kBA lCD1 kDB");
        D.due("only the other would", k.trades(), 0);
        D.due("n2", Due.jail("n2").trades(), 0);
    }

    private static void noCells() {
        CellKeys k = new CellKeys();
        D.due("band(0)", k.band(0), BAD);
        D.due("band(1)", k.band(1), BAD);
        D.due("bands(1)", k.bands(1), BAD);
        D.due("bands(0)", k.bands(0), BAD);
        D.due("deals(1, 0)", k.deals(1, 0), BAD);
        D.due("deals(0, 0)", k.deals(0, 0), BAD);
        D.due("trades()", k.trades(), 0);
        k.row(0, 0);
        D.due("dealt(0)", k.dealt(0), 1);
    }
}
