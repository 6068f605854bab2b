/** Promises 17 to 23: who can be let out, and evenings. */
final class EveningTest {
    private static final int NOTHING = 1, UNLIKE = 3, SIZE = 5;
    private static final int N = CellKeys.NONE;
    private static final Due D = new Due();

    public static void main(String[] args) {
        turned();
        carried();
        throughWalls();
        blind();
        twos();
        late();
        sprung();
        foes();
        lets();
        evenings();
        rowsOut();
        rowsOutRefused();
        noCells();
        D.end();
    }

    /** A jail in which some are out, put there by doors opened from inside. */
    private static CellKeys with(String words, int... gone) {
        CellKeys k = Due.jail(words);
        for (int x : gone) {
            D.check("let(" + x + ") in " + words, k.let(x) >= 0);
        }
        return k;
    }

    private static void turned() {
        D.due("turned by its keeper", with("n8 iH kAH", 7).can(0), 1);
        D.due("turned, a carrier being out", with("n8 iH iC kAH", 7, 2).can(0), 1);
        D.due("turned or through one wall", with("n2 iB kAB", 1).can(0), 1);
        D.due("inside", with("n2 iA").can(0), 0);
    }

    private static void carried() {
        D.due("carried", with("n8 iC kAH", 2).can(0), 2);
        D.due("walls are nearer", with("n8 iC kAB", 2).can(0), 1);
        D.due("walls are as near", with("n8 iH kAC", 7).can(0), 2);
        D.due("one carries, though a cell between is out", with("n8 iB kAC", 1).can(0), 2);
        D.due("nobody to carry", with("n8 kAH").can(0), 7);
    }

    private static void throughWalls() {
        for (int y = 1; y < 8; y++) {
            String words = "n8 kA" + (char) ('A' + y);
            D.due(words, with(words).can(0), y);
            words = "n8 kH" + (char) ('A' + y - 1);
            D.due(words, with(words).can(7), 8 - y);
        }
        D.due("a cell beyond quarrels", with("n8 kCE qCF qCB qCA").can(2), 2);
        D.due("a cell beyond is out", with("n8 kCE sBA0 iF qCF", 1, 5).can(2), 2);
        D.due("a cell between is out by a sprung door", with("n8 sBA0 kAC", 1).can(0), N);
        D.due("the keeper is out by a sprung door", with("n8 sBA0 kAB", 1).can(0), N);
        D.due("then one carries", with("n8 sBA0 kAB iD", 1, 3).can(0), 2);
    }

    private static void blind() {
        D.due("a blind one's own key", with("n8 bACD").can(0), N);
        D.due("between", with("n8 kAC bBAC").can(0), N);
        D.due("the keeper", with("n8 kAB bBAC").can(0), N);
        D.due("beyond", with("n8 kAC bDAC").can(0), 2);
        D.due("a blind one gets by others", with("n8 iC iD bACD", 2, 3).can(0), 2);
        D.due("a blind one's carried", with("n8 iH bACD", 7).can(0), 4);
        D.due("a blind keeper's is carried", with("n8 iH kAB bBAC", 7).can(0), 2);
    }

    private static void twos() {
        D.due("both keys", with("n8 tABD").can(0), 4);
        D.due("one of both can't", with("n8 tABD qAB").can(0), N);
        D.due("the other can't", with("n8 tABD qAC").can(0), N);
        D.due("one turned, one carried", with("n8 tAHG iH", 7).can(0), 3);
        D.due("one turned, the other by walls", with("n8 tAHB iH", 7).can(0), 2);
        D.due("each carried by the other's keeper", with("n4 tABC iD", 3).can(0), 3);
    }

    private static void late() {
        D.due("late by 0", with("n3 lAB0").can(0), 1);
        D.due("late by 1, none out", with("n3 lAB1 iB iC").can(0), N);
        D.due("late by 1, one out", with("n3 lAB1 iB iC", 2).can(0), 1);
        D.due("late by 2, one out", with("n3 lAB2 iB iC", 2).can(0), N);
        D.due("late by 2, two out", with("n3 lAB2 iB iC", 2, 1).can(0), 1);
        D.due("late by 8", with("n8 lAB8 iB iC iD iE iF iG iH", 1, 2, 3, 4, 5, 6, 7).can(0), N);
        D.due("late by 7", with("n8 lAB7 iB iC iD iE iF iG iH", 1, 2, 3, 4, 5, 6, 7).can(0), 1);
        D.due("sprung ones count", with("n3 sAB0 lBC1", 0).can(1), 1);
        D.due("sprung ones count, none out", with("n3 sAB0 lBC1").can(1), N);
    }

    private static void sprung() {
        D.due("sprung, late by 1", with("n3 sAB1").can(0), N);
        D.due("sprung by 1", with("n3 sAB1 iC", 2).can(0), 1);
        D.due("carries nothing", with("n4 sBA0 kAC", 1).can(0), N);
        D.due("turns no key", with("n4 sBA0 kCB", 1).can(2), N);
        D.due("carries no key of a later door", with("n8 sHG0 kAC", 7).can(0), 2);
        D.due("carries no key far off", with("n8 sHG0 kAD", 7).can(0), 3);
    }

    private static void foes() {
        D.due("the keeper, in", with("n3 kAB qAB").can(0), N);
        D.due("the keeper, out", with("n3 kAB iB qAB", 1).can(0), N);
        D.due("the keeper, one carries", with("n3 kAB iC qAB", 2).can(0), N);
        D.due("who carries", with("n8 kAD iE qAE", 4).can(0), 3);
        D.due("who carries, another one would", with("n8 kAD iE iF qAE", 4, 5).can(0), 2);
        D.due("between", with("n8 kAC qAB").can(0), N);
        D.due("between, one carries", with("n8 kAC qAB iH", 7).can(0), 2);
        D.due("others' quarrels", with("n8 kAC qBC").can(0), 2);
        D.due("inside", with("n2 iA qAB").can(0), 0);
    }

    private static void lets() {
        CellKeys k = Due.jail("n4 iA kBD sCA1 lDC3");
        D.due("let(3)", k.let(3), N);
        D.due("nothing is done", k.out(), 0);
        D.due("let(0)", k.let(0), 0);
        D.due("let(1)", k.let(1), 2);
        D.due("can(2)", k.can(2), 1);
        D.due("out() behind can()", k.out(), 3);
        D.due("let(2)", k.let(2), 1);
        D.due("let(3)", k.let(3), 2);
        D.due("out()", k.out(), 15);
        D.due("favours", k.asked(), 5);
        D.due("let(3) again", k.let(3), CellKeys.STATE);
        D.due("can(3)", k.can(3), CellKeys.STATE);
        D.due("let(4)", k.let(4), CellKeys.BAD);
        D.due("let(-1)", k.let(-1), CellKeys.BAD);
        D.due("can(4)", k.can(4), CellKeys.BAD);
        D.due("can(-1)", k.can(-1), CellKeys.BAD);
        D.due("can(32)", k.can(32), CellKeys.BAD);
        D.due("out()", k.out(), 15);
        D.due("favours", k.asked(), 5);
        D.due("bell()", k.bell(), 4);
        D.due("bell() again", k.bell(), 0);
        D.due("out()", k.out(), 0);
        D.due("favours", k.asked(), 0);
    }

    private static void evenings() {
        CellKeys k = Due.jail("n3 iA");
        D.due("keep(0)", k.keep(0), 0);
        k.let(0);
        k.let(2);
        D.due("keep(2)", k.keep(2), 2);
        k.let(1);
        D.due("on(0)", k.on(0), 0);
        D.due("out()", k.out(), 0);
        D.due("on(2)", k.on(2), 2);
        D.due("out()", k.out(), 5);
        D.due("favours", k.asked(), 1);
        D.due("can(1)", k.can(1), 1);
        k.let(1);
        D.due("kept stays kept", k.on(2), 2);
        k.quarrel(1, 2, 1);
        D.due("the jail is as it is", k.can(1), N);
        k.bell();
        D.due("the bell leaves it", k.on(2), 2);
        k.bell();
        k.keep(2);
        D.due("kept anew", k.on(2), 0);
        D.found(k, NOTHING, "on(1)", 0, k.on(1));
        D.due("keep(3)", k.keep(3), CellKeys.BAD);
        D.due("keep(-1)", k.keep(-1), CellKeys.BAD);
        D.due("on(3)", k.on(3), CellKeys.BAD);
        D.due("on(-1)", k.on(-1), CellKeys.BAD);
    }

    private static void rowsOut() {
        CellKeys k = Due.jail("n4 iA lBA2 kCA kDA");
        k.let(0);
        Due.fill(k, 0, 0, 2, 1, 3);
        D.due("lets", k.lets(0), 4);
        D.due("lets tells favours", k.asked(), 3);
        Due.fill(k, 0, 0, 1, 2, 3);
        D.due("lets till one can't", k.lets(0), 1);
        D.due("favours till then", k.asked(), 0);
        Due.fill(k, 0, 2, 3, 1, 0);
        D.due("lets from none", k.lets(0), 4);
        D.due("favours from none", k.asked(), 2 + 2 + 1 + 0);
        Due.fill(k, 0);
        D.due("lets none", k.lets(0), 0);
        D.due("favours of none", k.asked(), 0);
        D.due("the evening stays", k.out(), 1);
    }

    private static void rowsOutRefused() {
        CellKeys k = Due.jail("n3");
        k.at(0, 0);
        Due.fill(k, 0, 0, 1, 2, 2);
        D.found(k, SIZE, "lets of too many", 0, k.lets(0));
        Due.fill(k, 0, 0, 1, 0);
        D.found(k, UNLIKE, "lets of one twice", 0, k.lets(0));
        Due.fill(k, 0, 0, 3);
        D.found(k, UNLIKE, "lets of none", 1, k.lets(0));
        Due.fill(k, 0, -1);
        D.found(k, UNLIKE, "lets of -1", 2, k.lets(0));
        Due.fill(k, 0, 32, 0);
        D.found(k, UNLIKE, "lets of 32", 3, k.lets(0));
        D.found(k, NOTHING, "lets of missing", 1, k.lets(1));
        D.due("lets(6)", k.lets(6), CellKeys.BAD);
        D.due("lets(-1)", k.lets(-1), CellKeys.BAD);
    }

    private static void noCells() {
        CellKeys k = new CellKeys();
        D.due("can", k.can(0), CellKeys.BAD);
        D.due("let", k.let(0), CellKeys.BAD);
        D.due("bell", k.bell(), 0);
        D.due("keep", k.keep(1), 0);
        D.due("on", k.on(1), 0);
        D.due("out", k.out(), 0);
        Due.fill(k, 0, 0);
        D.found(k, SIZE, "lets of more than none", 0, k.lets(0));
    }
}
