import java.util.ArrayList;
import java.util.List;

/** Promises 38 to 48, sentence by sentence: nights, what is told. */
final class Promise38To48Test {
    private static final int BAD = Sentences.BAD, FULL = Sentences.FULL, N = Sentences.NONE;
    private static final int NOTHING = Sentences.NOTHING, BEYOND = Sentences.BEYOND, UNLIKE = Sentences.UNLIKE,
            NOUGHT = Sentences.NOUGHT, SIZE = Sentences.SIZE;
    private static final int MIN = Sentences.MIN, MAX = Sentences.MAX;
    /** Reached are none, A by 0 favours, A and B by 1, all by 2. */
    private static final String LINE = "n3 iA lBA1 lCA2";
    private static final int MOST_SEEN = 8;
    private static final Sentences S = new Sentences();

    public static void main(String[] args) throws Exception {
        S.run(Promise38To48Test.class);
    }

    // ---- 38 saw

    private static CellKeys seenFull() {
        CellKeys k = S.jail(LINE);
        for (int i = 0; i < MOST_SEEN; i++) {
            k.saw(0, 1);
        }
        return k;
    }

    static void p38ItsNumber() {
        CellKeys k = S.jail("n8");
        for (int i = 0; i < MOST_SEEN; i++) {
            S.is("saw " + i, k.saw(i, i % 2), i);
            S.is("count(5)", k.count(5), i + 1);
        }
    }

    static void p38TheSameAgainHasAnotherNumber() {
        CellKeys k = S.jail("n2");
        S.is("saw(1, 1)", k.saw(1, 1), 0);
        S.is("saw(1, 1) again", k.saw(1, 1), 1);
        S.is("saw(1, 0)", k.saw(1, 0), 2);
    }

    static void p38Full() {
        S.quiet(seenFull(), "saw(0, 1), a ninth", FULL, o -> o.saw(0, 1));
        S.quiet(seenFull(), "saw(2, 0), a ninth", FULL, o -> o.saw(2, 0));
    }

    static void p38BadIsAheadOfFull() {
        S.quiet(seenFull(), "saw(3, 1)", BAD, o -> o.saw(3, 1));
        S.quiet(seenFull(), "saw(0, 2)", BAD, o -> o.saw(0, 2));
    }

    static void p38Bad() {
        S.badOutside("saw's cell", 0, 7, x -> o -> o.saw(x, 1));
        S.badOutside("saw's is", 0, 1, is -> o -> o.saw(0, is));
        S.quiet(new CellKeys(), "saw(0, 0), no cells", BAD, o -> o.saw(0, 0));
        S.quiet(S.jail("n2"), "saw(2, 0), two cells", BAD, o -> o.saw(2, 0));
    }

    // ---- 39 forget

    static void p39FromANumberOn() {
        CellKeys k = seenFull();
        S.is("forget(5)", k.forget(5), 3);
        S.is("count(5)", k.count(5), 5);
        S.is("saw(1, 1)", k.saw(1, 1), 5);
        S.is("forget(5)", k.forget(5), 1);
        S.is("forget(0)", k.forget(0), 5);
        S.is("count(5)", k.count(5), 0);
        k = seenFull();
        S.is("forget(7), the last one", k.forget(7), 1);
        S.is("forget(0), all the others", k.forget(0), 7);
    }

    static void p39WhatIsLeftCounts() {
        CellKeys k = S.jail(LINE);
        k.saw(1, 1);
        k.saw(2, 0);
        k.saw(0, 0);
        S.is("culprits(99)", k.culprits(99), N);
        k.forget(2);
        S.tells(k, "culprits(99), B out, C in", k.culprits(99), 3, 3);
        k.forget(1);
        S.tells(k, "culprits(99), B out", k.culprits(99), 7, 3);
    }

    static void p39HowManyThereAreThenNought() {
        S.quiet(seenFull(), "forget(8)", 0, o -> o.forget(8));
        S.quiet(new CellKeys(), "forget(0), none", 0, o -> o.forget(0));
        S.quiet(Sentences.everything(), "forget(2)", 0, o -> o.forget(2));
    }

    static void p39Bad() {
        S.badOutside("forget", 0, 2, n -> o -> o.forget(n));
        S.quiet(seenFull(), "forget(9)", BAD, o -> o.forget(9));
        S.quiet(new CellKeys(), "forget(1), none", BAD, o -> o.forget(1));
        S.quiet(new CellKeys(), "forget(-1), none", BAD, o -> o.forget(-1));
    }

    // ---- 40 culprits

    private static void culprits(CellKeys k, int f, int due, int asked) {
        long before = k.digest();
        S.tells(k, "culprits(" + f + ")", k.culprits(f), due, asked);
        S.is("digest()", k.digest(), before);
    }

    static void p40ByFFavoursOrFewer() {
        CellKeys k = S.jail(LINE);
        culprits(k, 0, 1, 0);
        culprits(k, 1, 3, 0);
        culprits(k, 2, 7, 0);
        culprits(k, 99, 7, 0);
        culprits(S.jail("n2 lAB9"), 0, 0, 0);
        culprits(S.jail("n2 lAB9"), 1, 2, 0);
    }

    static void p40FitsAllThatWasSeen() {
        CellKeys k = S.jail(LINE);
        k.saw(1, 1);
        culprits(k, 99, 7, 3);
        culprits(k, 1, 3, 3);
        k.saw(2, 0);
        culprits(k, 99, 3, 3);
        k.forget(0);
        k.saw(0, 0);
        culprits(k, 99, 0, 0);
        k.forget(0);
        k.saw(2, 1);
        culprits(k, 2, 7, 7);
    }

    static void p40EachOfEightSeenCounts() {
        for (int i = 0; i < MOST_SEEN; i++) {
            CellKeys k = S.jail(LINE);
            for (int j = 0; j < MOST_SEEN; j++) {
                k.saw(0, i == j ? 0 : 1);
            }
            S.quiet(k, "culprits(99), number " + i + " unlike", N, o -> o.culprits(99));
        }
    }

    static void p40NoneThereIsNoneSuch() {
        CellKeys k = S.jail(LINE);
        k.saw(1, 1);
        k.culprits(1);
        S.quiet(k, "culprits(0)", N, o -> o.culprits(0));
        k.saw(1, 0);
        S.quiet(k, "culprits(99), in and out", N, o -> o.culprits(99));
    }

    static void p40BadIsAheadOfNone() {
        CellKeys k = S.jail(LINE);
        k.saw(1, 1);
        k.saw(1, 0);
        S.quiet(k, "culprits(-1)", BAD, o -> o.culprits(-1));
        S.quiet(k, "culprits(100)", BAD, o -> o.culprits(100));
    }

    static void p40WhoeverIsOut() {
        CellKeys k = S.jail(LINE, 0, 1);
        culprits(k, 0, 1, 0);
        S.tells(k, "out()", k.out(), 3, 1);
    }

    static void p40NoCellsAndEight() {
        culprits(new CellKeys(), 0, 0, 0);
        culprits(S.jail(Sentences.inside(8)), 0, 255, 0);
        CellKeys k = S.jail(Sentences.inside(8));
        k.saw(7, 1);
        culprits(k, 0, 255, 128);
    }

    static void p40Bad() {
        S.badOutside("culprits", 0, 99, f -> o -> o.culprits(f));
        S.quiet(new CellKeys(), "culprits(-1), no cells", BAD, o -> o.culprits(-1));
        S.quiet(new CellKeys(), "culprits(100), no cells", BAD, o -> o.culprits(100));
    }

    // ---- 41 odds

    private static void odds(CellKeys k, int f, int x, int due, int upper, int lower) {
        long before = k.digest();
        int asked = k.asked();
        S.is("odds(" + f + ", " + x + ")", k.odds(f, x), due);
        S.is("upper()", k.upper(), upper);
        S.is("lower()", k.lower(), lower);
        S.is("digest()", k.digest(), before);
        S.is("asked()", k.asked(), asked);
    }

    static void p41HowManyOfAll() {
        CellKeys k = S.jail(LINE);
        odds(k, 99, 0, 3, 3, 4);
        odds(k, 1, 0, 2, 2, 3);
        odds(k, 2, 2, 1, 1, 4);
    }

    static void p41InLowestTerms() {
        CellKeys k = S.jail(LINE);
        odds(k, 99, 1, 2, 1, 2);
        odds(S.jail("n2"), 99, 0, 2, 1, 2);
        odds(S.jail(Sentences.inside(8)), 0, 7, 128, 1, 2);
        k = S.jail("n3 iA iB lCA1");
        odds(k, 1, 0, 4, 2, 3);
        odds(k, 1, 2, 2, 1, 3);
    }

    static void p41NoneIsNoughtByOne() {
        CellKeys k = S.jail(LINE);
        odds(k, 99, 0, 3, 3, 4);
        odds(k, 0, 1, 0, 0, 1);
        odds(k, 0, 2, 0, 0, 1);
    }

    static void p41AllIsOneByOne() {
        CellKeys k = S.jail(LINE);
        k.saw(0, 1);
        odds(k, 99, 0, 3, 1, 1);
        odds(k, 0, 0, 1, 1, 1);
    }

    static void p41NoneSuchIsNought() {
        CellKeys k = S.jail(LINE);
        k.odds(99, 0);
        k.saw(2, 1);
        S.found(k, NOUGHT, "odds(1, 2)", o -> o.odds(1, 2));
        k.saw(2, 0);
        S.found(k, NOUGHT, "odds(99, 0)", o -> o.odds(99, 0));
    }

    static void p41BadIsAheadOfNought() {
        CellKeys k = S.jail(LINE);
        k.saw(0, 1);
        k.saw(0, 0);
        S.quiet(k, "odds(99, 3)", BAD, o -> o.odds(99, 3));
        S.quiet(k, "odds(100, 0)", BAD, o -> o.odds(100, 0));
    }

    static void p41Bad() {
        S.badOutside("odds by", 0, 99, f -> o -> o.odds(f, 0));
        S.badOutside("odds of", 0, 7, x -> o -> o.odds(99, x));
        S.quiet(new CellKeys(), "odds(0, 0), no cells", BAD, o -> o.odds(0, 0));
        S.quiet(S.jail("n2"), "odds(0, 2), two cells", BAD, o -> o.odds(0, 2));
    }

    // ---- 42 asked

    static void p42NoughtBefore() {
        S.quiet(new CellKeys(), "asked()", 0, CellKeys::asked);
        CellKeys k = S.jail("n3 iA");
        k.let(0);
        S.is("asked(), nothing told", k.asked(), 0);
    }

    static void p42TheLatestOfEachCallThatTells() {
        CellKeys k = S.jail("n4 iA kBA lCB1 sDC8 qBD");
        Due.fill(k, 0, 40, 41);
        Due.fill(k, 1, 0, 1, 2);
        S.tells(k, "at", k.at(0, 1), 1, 41);
        S.tells(k, "lay", k.lay(0, 0, 50), 1, 40);
        S.tells(k, "mean", k.mean(0), 1, 45);
        S.tells(k, "door", k.door(3, 3), 1, 8);
        k.let(0);
        k.let(2);
        S.tells(k, "out", k.out(), 5, 1);
        S.tells(k, "reached", k.reached(), 7, 3);
        S.tells(k, "least", k.least(4), 1, 5);
        S.tells(k, "ever", k.ever(), 7, 8);
        S.tells(k, "ring", k.ring(0), 1, 0);
        S.tells(k, "most", k.most(), 7, 2);
        S.tells(k, "without", k.without(1), 5, 4);
        S.tells(k, "bands", k.bands(2), 1, 3);
        S.tells(k, "ill", k.ill(0), 1, 1);
        S.tells(k, "lets", k.lets(1), 3, 2);
        k.saw(0, 1);
        S.tells(k, "culprits", k.culprits(99), 7, 1);
    }

    /** Calls that answer, but do not tell by asked(), on an object whose asked() is -7. */
    private static void leaves(String call, Sentences.Call c) {
        CellKeys k = Sentences.everything();
        S.is(call + " is not refused", c.on(k) >= 0 ? 1 : 0, 1);
        S.is("asked() behind " + call, k.asked(), -7);
    }

    static void p42OtherCallsLeaveIt() {
        leaves("row", o -> o.row(0, 3));
        leaves("tear", o -> o.tear(0));
        leaves("copy", o -> o.copy(0, 0, 4, 0, 2));
        leaves("text", o -> o.text(0, 3));
        leaves("put", o -> o.put(0, 0, 3));
        leaves("fault", o -> o.fault(1));
        leaves("jail", o -> o.jail(0));
        leaves("mark", o -> o.mark(0, 2));
        leaves("key", o -> o.key(1, 2));
        leaves("quarrel", o -> o.quarrel(1, 2, 1));
        leaves("foes", o -> o.foes(6));
        leaves("can", o -> o.can(6));
        leaves("let", o -> o.let(6));
        leaves("bell", CellKeys::bell);
        leaves("keep", o -> o.keep(2));
        leaves("on", o -> o.on(1));
        leaves("order", o -> o.order(3, 0));
        leaves("ways", o -> o.ways(255));
        leaves("band", o -> o.band(3));
        leaves("trades", CellKeys::trades);
        leaves("saw", o -> o.saw(0, 1));
        leaves("forget", o -> o.forget(0));
        leaves("odds", o -> o.odds(99, 0));
        leaves("upper", CellKeys::upper);
        leaves("lower", CellKeys::lower);
        leaves("count", o -> o.count(0));
        leaves("finding", CellKeys::finding);
        leaves("findings", o -> o.findings(1));
    }

    static void p42DealsAndDealtLeaveIt() {
        CellKeys k = S.jail("n3");
        Due.fill(k, 0, 9);
        k.at(0, 0);
        S.is("deals(2, 1)", k.deals(2, 1), 4);
        S.is("dealt(1)", k.dealt(1), 1);
        k.digest();
        S.is("asked()", k.asked(), 9);
    }

    // ---- 43 upper, 44 lower

    static void p43NoughtBefore() {
        S.quiet(new CellKeys(), "upper()", 0, CellKeys::upper);
    }

    static void p43TheLatestThatWasTold() {
        CellKeys k = S.jail(LINE);
        k.odds(99, 0);
        S.is("upper()", k.upper(), 3);
        k.odds(1, 0);
        S.is("upper()", k.upper(), 2);
        k.odds(100, 0);
        S.is("upper() behind BAD", k.upper(), 2);
    }

    static void p44OneBefore() {
        S.quiet(new CellKeys(), "lower()", 1, CellKeys::lower);
    }

    static void p44TheLatestThatWasTold() {
        CellKeys k = S.jail(LINE);
        k.odds(99, 0);
        S.is("lower()", k.lower(), 4);
        k.odds(1, 0);
        S.is("lower()", k.lower(), 3);
        k.odds(0, -1);
        S.is("lower() behind BAD", k.lower(), 3);
    }

    // ---- 45 count

    private static void counts(CellKeys k, int... dues) {
        for (int what = 0; what < dues.length; what++) {
            int count = what;
            S.quiet(k, "count(" + what + ")", dues[what], o -> o.count(count));
        }
    }

    static void p45NoneOfAll() {
        counts(new CellKeys(), 0, 0, 0, 0, 0, 0, 0, 0);
    }

    static void p45SomeOfAll() {
        counts(Sentences.everything(), 8, 3, 2, 2, 1, 2, 5, 3);
    }

    static void p45AllOut() {
        S.is("count(1)", S.jail("n8", 0, 1, 2, 3, 4, 5, 6, 7).count(1), 8);
        S.is("count(0)", S.jail("n2").count(0), 2);
    }

    static void p45TwoDoorsBlindToo() {
        S.is("none", S.jail("n8 iA lBA1 sCA1").count(2), 0);
        S.is("one TWO", S.jail("n8 tABC").count(2), 1);
        S.is("one BLIND", S.jail("n8 bABC").count(2), 1);
        S.is("all", S.jail("n8 tABC bBCA tCAB bDAB tEAB bFAB tGAB bHAB").count(2), 8);
    }

    static void p45LateDoorsSprungToo() {
        S.is("none", S.jail("n8 iA tBAC bCAB").count(3), 0);
        S.is("one LATE", S.jail("n8 lAB0").count(3), 1);
        S.is("one SPRUNG", S.jail("n8 sAB0").count(3), 1);
        S.is("all", S.jail("n8 lAB1 sBA1 lCA1 sDA1 lEA1 sFA1 lGA1 sHA1").count(3), 8);
    }

    static void p45PairsThatQuarrel() {
        CellKeys k = S.jail("n8");
        int pairs = 0;
        for (int x = 0; x < 8; x++) {
            for (int y = x + 1; y < 8; y++) {
                k.quarrel(y, x, 1);
                pairs++;
                S.is("count(4)", k.count(4), pairs);
            }
        }
        S.is("all pairs", k.count(4), 28);
    }

    static void p45RowsAndTextsThatAreThere() {
        CellKeys k = new CellKeys();
        for (int i = 0; i < 6; i++) {
            k.row(i, 0);
            S.is("count(6)", k.count(6), i + 1);
        }
        for (int i = 0; i < 4; i++) {
            k.text(i, 0);
            S.is("count(7)", k.count(7), i + 1);
        }
    }

    static void p45Bad() {
        S.badOutside("count", 0, 7, what -> o -> o.count(what));
        S.quiet(new CellKeys(), "count(8)", BAD, o -> o.count(8));
    }

    // ---- 46 finding, 47 findings

    static void p46NoughtBeforeAny() {
        S.quiet(new CellKeys(), "finding()", 0, CellKeys::finding);
        CellKeys k = S.jail("n6");
        k.row(6, 0);
        k.deals(1, 1);
        k.let(0);
        k.let(0);
        S.is("finding() behind other words", k.finding(), 0);
    }

    static void p46TheLatest() {
        CellKeys k = Sentences.everything();
        k.at(5, 0);
        S.is("NOTHING", k.finding(), NOTHING);
        k.at(0, 9);
        S.is("BEYOND", k.finding(), BEYOND);
        k.mark(0, 1);
        S.is("UNLIKE", k.finding(), UNLIKE);
        k.mean(1);
        S.is("NOUGHT", k.finding(), NOUGHT);
        k.row(0, -1);
        S.is("SIZE", k.finding(), SIZE);
        k.row(6, 0);
        k.row(0, 2);
        S.is("SIZE still", k.finding(), SIZE);
    }

    static void p47HowOften() {
        CellKeys k = new CellKeys();
        for (int f = 1; f <= 5; f++) {
            S.is("findings(" + f + ") before", k.findings(f), 0);
        }
        k.row(0, 0);
        for (int i = 0; i < 100; i++) {
            k.mean(0);
            k.at(0, 0);
            k.at(0, 0);
        }
        S.is("findings(1)", k.findings(1), 0);
        S.is("findings(2)", k.findings(2), 200);
        S.is("findings(3)", k.findings(3), 0);
        S.is("findings(4)", k.findings(4), 100);
        S.is("findings(5)", k.findings(5), 0);
    }

    static void p47Bad() {
        S.badOutside("findings", 1, 5, f -> o -> o.findings(f));
        S.bad("findings(-1)", o -> o.findings(-1));
    }

    // ---- 48 digest

    private static long hash(List<Integer> values) {
        long h = 17;
        for (int v : values) {
            h = 31 * h + v;
        }
        return h;
    }

    private static List<Integer> listOf(int... values) {
        List<Integer> list = new ArrayList<>();
        for (int v : values) {
            list.add(v);
        }
        return list;
    }

    static void p48OfANewObject() {
        List<Integer> due = listOf(0, 0, 0, 0, 0, 0, 0, 0, 0, 0);
        for (int i = 0; i < 3 + 6 + 4; i++) {
            due.add(-1);
        }
        S.quiet(new CellKeys(), "digest()", hash(due), CellKeys::digest);
    }

    static void p48OfEverything() {
        List<Integer> due = listOf(8, 3, 2, 2, 1, 2, 5, 3, 19, 2,
                2, N, N, 0, 0, 0, 0, N, 0, 0, 1, 0, 1, 0, 0, 3, 0, N, 1, 0,
                4, 0, N, 0, 0, 5, 0, 1, 0, 0, 0, 1, N, 0, 128, 0, 0, N, 0, 64,
                0, 1, 4, 0, 19, 2, 3, 1, -1, 2, 3, -7, 0, 60);
        for (int i = 0; i < 60; i++) {
            due.add(0);
        }
        due.addAll(listOf(3, 0, 1, 2, 2, 7, 7, -1, Sentences.EVERY_KIND.length()));
        for (char c : Sentences.EVERY_KIND.toCharArray()) {
            due.add((int) c);
        }
        due.addAll(listOf(0, 3, 'n', '2', 'x', -1));
        S.quiet(Sentences.everything(), "digest()", hash(due), CellKeys::digest);
    }

    static void p48PlacesAndBytesBelowNought() {
        CellKeys k = new CellKeys();
        Due.fill(k, 5, MIN, MAX, -1);
        k.text(3, 2);
        k.put(3, 0, -128);
        k.put(3, 1, 127);
        S.is("digest()", k.digest(), hash(listOf(0, 0, 0, 0, 0, 0, 1, 1, 0, 0, -1, -1, -1,
                -1, -1, -1, -1, -1, 3, MIN, MAX, -1, -1, -1, -1, 2, -128, 127)));
    }

    static void p48KeptEvenings() {
        CellKeys k = S.jail("n2");
        k.keep(1);
        k.let(1);
        k.keep(2);
        k.let(0);
        S.is("digest()", k.digest(), hash(listOf(2, 2, 0, 0, 0, 0, 0, 1, 3, 2,
                0, 1, N, 0, 0, 0, 0, N, 0, 0, -1, 0, 0, 2, 1,
                -1, -1, -1, -1, -1, -1, -1, -1, -1, 2, 'n', '2')));
    }

    static void p48NothingElseIsInIt() {
        CellKeys k = S.jail(LINE);
        long before = k.digest();
        k.odds(99, 0);
        k.least(7);
        k.at(0, 0);
        k.row(0, -1);
        S.is("digest()", k.digest(), before);
    }
}
