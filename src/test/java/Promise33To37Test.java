/** Promises 33 to 37, sentence by sentence: bands, deals, trades. */
final class Promise33To37Test {
    private static final int BAD = Sentences.BAD, SPENT = Sentences.SPENT, N = Sentences.NONE;
    private static final int NOTHING = Sentences.NOTHING, UNLIKE = Sentences.UNLIKE, SIZE = Sentences.SIZE;
    private static final int MIN = Sentences.MIN, MAX = Sentences.MAX;
    /** A is out for nothing; D by A, then B and C by D, cost one each. */
    private static final String CHAIN = "n4 iA kBD kCD kDA";
    /** C and B, who keep the keys of A and D, would trade them. */
    private static final String TRADE = "n4 kAC lBA1 lCD1 kDB";
    /** Trades go round in a ring for ever. */
    private static final String RING = "n8tAFCtBHEsCG0sDH2lEH1lFE4lGB3lHC4qDAqEAqGAqGCqGDqGEqHAqHDqHG";
    private static final Sentences S = new Sentences();

    public static void main(String[] args) throws Exception {
        S.run(Promise33To37Test.class);
    }

    // ---- 33 band

    private static void band(String words, int set, int due, int... gone) {
        S.quiet(S.jail(words, gone), words + ": band(" + set + ")", due, o -> o.band(set));
    }

    static void p33TheFewestFavours() {
        band(CHAIN, 1, 0);
        band(CHAIN, 9, 1);
        band(CHAIN, 11, 2);
        band(CHAIN, 15, 3);
        band("n3 kAC kCA", 7, 4);
    }

    static void p33OfOneAndOfAll() {
        band("n2 iA", 1, 0);
        band("n2 iA", 2, N);
        band("n2", 3, 2);
        band(Sentences.inside(8), 128, 0);
        band(Sentences.inside(8), 255, 0);
        band("n8", 255, 8);
    }

    static void p33AllOfItMustBeOut() {
        band("n3 iA iB lCA9", 3, 0);
        band("n3 iA iB lCA9", 7, N);
        band("n3 sAB0 sBA0", 3, N);
    }

    static void p33NoKeyOfOthers() {
        band(CHAIN, 8, N);
        band(CHAIN, 3, N);
        band("n3 tABC iB", 3, N);
        band("n3 tACB iB", 3, N);
        band("n3 tABC iB", 7, 4);
    }

    static void p33NothingThroughTheirCells() {
        band("n3 kAC kCA", 5, N);
        band("n3 kAC iC", 5, 1);
        band("n4 kAC lBA9 kCA", 5, N);
    }

    static void p33OthersStayIn() {
        band("n3 iA lBA1 kCA", 2, N);
        band("n3 iA lBA1 kCA", 3, 1);
        band("n3 iC lBA1", 3, 2);
        band("n3 iC lBA2", 3, N);
        band("n3 iC lBA2", 7, 2);
        band("n3 lBA1 iA", 2, N, 0);
        band("n4 iA kBD qBC", 10, N, 0);
    }

    static void p33ItsQuarrelsMatter() {
        band("n2 qAB", 3, N);
        band("n3 iA kBA qAB", 3, N);
        band("n3 iA kBA qBC", 3, 1);
    }

    static void p33OneBehindTheOtherOnOneObject() {
        CellKeys k = S.jail(CHAIN);
        int[] sets = {15, 8, 9, 3, 11, 1, 15};
        int[] dues = {3, N, 1, N, 2, 0, 3};
        for (int i = 0; i < sets.length; i++) {
            S.is("band(" + sets[i] + ")", k.band(sets[i]), dues[i]);
        }
    }

    static void p33NoneInItIsBad() {
        S.bad("band(0)", o -> o.band(0));
        S.quiet(new CellKeys(), "band(0), no cells", BAD, o -> o.band(0));
        S.quiet(S.jail("n2"), "band(0), two cells", BAD, o -> o.band(0));
    }

    static void p33Bad() {
        S.badOutside("band", 1, 255, set -> o -> o.band(set));
        S.bad("band(-1)", o -> o.band(-1));
        S.quiet(new CellKeys(), "band(1), no cells", BAD, o -> o.band(1));
        S.quiet(S.jail("n2"), "band(4), two cells", BAD, o -> o.band(4));
    }

    // ---- 34 bands

    private static void bands(String words, int b, int due, int asked) {
        CellKeys k = S.jail(words);
        long before = k.digest();
        S.tells(k, words + ": bands(" + b + ")", k.bands(b), due, asked);
        S.is("digest()", k.digest(), before);
    }

    static void p34HowManyAndTheFirst() {
        bands("n4 iA kDA kBC kCB", 1, 1, 1);
        bands("n4 iA kDA kBC kCB", 2, 2, 6);
        bands("n4 iA kDA kBC kCB", 3, 1, 7);
        bands("n4 iA kDA kBC kCB", 4, 1, 15);
    }

    static void p34TheFirstIsThatOfTheLeastBits() {
        bands("n4 iA iD kBA kCD", 2, 3, 3);
        bands("n5 iA kEA kBC kCB kDE", 2, 2, 6);
    }

    static void p34NoneTellsNone() {
        bands("n2", 1, 0, N);
        bands("n8", 7, 0, N);
        bands("n8 qAB", 8, 0, N);
    }

    static void p34OneToEight() {
        int[] dues = {8, 28, 56, 70, 56, 28, 8, 1};
        for (int b = 1; b <= 8; b++) {
            bands(Sentences.inside(8), b, dues[b - 1], (1 << b) - 1);
        }
        S.badOutside("bands", 1, 8, b -> o -> o.bands(b));
    }

    static void p34MoreThanCellsIsBad() {
        bands("n2", 2, 1, 3);
        S.quiet(S.jail("n2"), "bands(3), two cells", BAD, o -> o.bands(3));
        S.quiet(S.jail("n7"), "bands(8), seven cells", BAD, o -> o.bands(8));
        S.quiet(new CellKeys(), "bands(1), no cells", BAD, o -> o.bands(1));
        S.quiet(new CellKeys(), "bands(0), no cells", BAD, o -> o.bands(0));
    }

    static void p34WhoeverIsOut() {
        CellKeys k = S.jail("n4 iA kDA kBC kCB", 0, 3);
        S.tells(k, "bands(1)", k.bands(1), 1, 1);
        S.tells(k, "out()", k.out(), 9, 1);
    }

    // ---- 35 deals

    private static void deals(String words, int b, int due, int... first) {
        CellKeys k = S.jail(words);
        k.row(5, 60);
        S.is(words + ": deals(" + b + ", 5)", k.deals(b, 5), due);
        S.row(k, 5, first);
        S.is(words + ": deals(" + b + ", 0)", k.deals(b, 0), due);
        S.row(k, 0, first);
    }

    static void p35NoBandOfB() {
        deals("n3", 1, 8, 1, 0, 0);
        deals("n3", 2, 4, 1, 2, 0);
        deals("n3 qAB", 2, 6, 1, 0, 0);
    }

    static void p35ToWhomeverButWhoLivesThere() {
        deals("n2", 1, 1, 1, 0);
        deals("n4", 1, 81, 1, 0, 0, 0);
        deals("n5", 1, 1024, 1, 0, 0, 0, 0);
    }

    static void p35NotToWhoKeepsTheOtherOne() {
        deals("n3 tABC", 1, 4, 1, 0, 0);
        deals("n3 tACB", 1, 4, 2, 0, 0);
        deals("n3 bABC tBCA", 1, 2, 1, 2, 0);
        deals("n5 bABC tBAC tCAB bDAB tEAB", 1, 243, 1, 0, 0, 0, 0);
    }

    static void p35ByCellsTheLeastKeepersFirst() {
        deals("n3 qAB qAC", 2, 6, 1, 0, 0);
        deals("n4 lAB9 lBA9 lCA9", 2, 81, 1, 0, 0, 0);
        deals("n4 lAB9 lBA9", 2, 72, 1, 0, 0, 0);
        deals("n3 iA lBA9 lCA9", 2, 4, N, 0, 0);
    }

    static void p35OfAnInsideOneNone() {
        deals("n3 tABC iB", 2, 1, 1, N, 0);
        deals("n3 iA qBA qBC", 2, 2, N, 0, 1);
    }

    static void p35NoneTheRowStays() {
        S.quiet(dealer("n3"), "deals(3, 0)", 0, o -> o.deals(3, 0));
        S.quiet(dealer("n3"), "deals(3, 5), missing", 0, o -> o.deals(3, 5));
        S.quiet(dealer("n3 iA"), "deals(1, 0), A inside", 0, o -> o.deals(1, 0));
        S.quiet(dealer("n3 iC"), "deals(1, 1), C inside", 0, o -> o.deals(1, 1));
        S.quiet(dealer("n2 iA iB"), "deals(2, 0)", 0, o -> o.deals(2, 0));
    }

    private static CellKeys dealer(String words) {
        CellKeys k = S.jail(words);
        Due.fill(k, 0, 8, 9);
        k.row(1, 0);
        k.at(0, 1);
        return k;
    }

    static void p35OneBehindTheOtherOnOneObject() {
        CellKeys k = S.jail("n3");
        S.is("deals(2, 0)", k.deals(2, 0), 4);
        S.is("deals(1, 1)", k.deals(1, 1), 8);
        S.is("deals(3, 2)", k.deals(3, 2), 0);
        S.is("deals(2, 3)", k.deals(2, 3), 4);
        S.row(k, 0, 1, 2, 0);
        S.row(k, 1, 1, 0, 0);
        S.row(k, 3, 1, 2, 0);
        S.is("rows", k.count(6), 3);
    }

    static void p35TheKeysAndTheEveningStay() {
        CellKeys k = S.jail("n3", 0);
        S.is("deals(2, 0)", k.deals(2, 0), 4);
        S.keepers(k, 1, 2, 0);
        S.tells(k, "out()", k.out(), 1, 1);
    }

    static void p35FiveCellsAtMost() {
        deals("n5 lAB9 lBC9 lCD9 lDE9 lEA9", 5, 1024, 1, 0, 0, 0, 0);
        for (int n = 6; n <= 8; n++) {
            S.quiet(dealer("n" + n), "deals(1, 0) of n" + n, SPENT, o -> o.deals(1, 0));
            S.quiet(dealer("n" + n), "deals(5, 5) of n" + n, SPENT, o -> o.deals(5, 5));
        }
    }

    static void p35Bad() {
        S.badOutside("deals of", 1, 5, b -> o -> o.deals(b, 0));
        S.badOutside("deals to row", 0, 5, r -> o -> o.deals(1, r));
        for (int b : new int[] {0, -1, 6, MIN, MAX}) {
            S.quiet(dealer("n5"), "deals(" + b + ", 0), five cells", BAD, o -> o.deals(b, 0));
        }
        for (int r : new int[] {-1, 6, MIN, MAX}) {
            S.quiet(dealer("n5"), "deals(1, " + r + "), five cells", BAD, o -> o.deals(1, r));
        }
    }

    static void p35AboveCellsIsBad() {
        S.quiet(dealer("n2"), "deals(3, 0), two cells", BAD, o -> o.deals(3, 0));
        S.quiet(dealer("n4"), "deals(5, 0), four cells", BAD, o -> o.deals(5, 0));
        S.quiet(new CellKeys(), "deals(1, 0), no cells", BAD, o -> o.deals(1, 0));
    }

    static void p35BadIsAheadOfSpent() {
        S.bad("deals(0, 0)", o -> o.deals(0, 0));
        S.bad("deals(6, 0)", o -> o.deals(6, 0));
        S.bad("deals(1, 6)", o -> o.deals(1, 6));
        S.bad("deals(1, -1)", o -> o.deals(1, -1));
    }

    // ---- 36 dealt

    private static CellKeys withRow(String words, int... places) {
        CellKeys k = S.jail(words);
        Due.fill(k, 0, places);
        return k;
    }

    static void p36TheFirstKeysAreAsTold() {
        CellKeys k = withRow("n6 tBCD lCA3 sDA4 bEAB", 5, 5, 5, 5, 5, 4);
        S.is("dealt(0)", k.dealt(0), 1);
        S.door(k, 0, 0, 5, N, 0);
        S.door(k, 1, 1, 5, 3, 0);
        S.door(k, 2, 3, 5, N, 3);
        S.door(k, 3, 4, 5, N, 4);
        S.door(k, 4, 5, 5, 1, 0);
        S.door(k, 5, 0, 4, N, 0);
        S.row(k, 0, 5, 5, 5, 5, 5, 4);
    }

    static void p36TwoCellsEightCellsNoCells() {
        CellKeys k = withRow("n2", 1, 0);
        S.is("dealt(0), two cells", k.dealt(0), 1);
        S.keepers(k, 1, 0);
        k = withRow("n8", 7, 7, 7, 7, 7, 7, 7, 6);
        S.is("dealt(0), eight cells", k.dealt(0), 1);
        S.keepers(k, 7, 7, 7, 7, 7, 7, 7, 6);
        k = new CellKeys();
        k.row(0, 0);
        S.is("dealt(0), no cells", k.dealt(0), 1);
    }

    static void p36TheLastRow() {
        CellKeys k = S.jail("n3");
        Due.fill(k, 5, 2, 2, 1);
        S.is("dealt(5)", k.dealt(5), 1);
        S.keepers(k, 2, 2, 1);
    }

    static void p36InsideOnesAreNotLookedAt() {
        for (int v : new int[] {0, 1, -1, 3, N, MIN, MAX}) {
            CellKeys k = withRow("n3 iA", v, 0, 1);
            S.is("dealt(0), A by " + v, k.dealt(0), 1);
            S.door(k, 0, 2, N, N, 0);
            S.keepers(k, N, 0, 1);
        }
    }

    static void p36NotAsManyAsCellsIsSize() {
        S.found(SIZE, "dealt(0), two places", o -> o.dealt(0));
        S.found(SIZE, "dealt(1), no places", o -> o.dealt(1));
        S.found(SIZE, "dealt(2), sixty places", o -> o.dealt(2));
        S.found(withRow("n3", 1, 2), SIZE, "dealt(0), one too few", o -> o.dealt(0));
        S.found(withRow("n3", 1, 2, 0, 1), SIZE, "dealt(0), one more", o -> o.dealt(0));
        CellKeys k = new CellKeys();
        k.row(0, 1);
        S.found(k, SIZE, "dealt(0), no cells", o -> o.dealt(0));
    }

    static void p36AKeeperThatIsNoneIsUnlike() {
        for (int v : new int[] {-1, 3, 32, N, MIN, MAX}) {
            S.found(withRow("n3", 2, 2, v), UNLIKE, "dealt(0), C by " + v, o -> o.dealt(0));
            S.found(withRow("n3", v, 2, 1), UNLIKE, "dealt(0), A by " + v, o -> o.dealt(0));
        }
    }

    static void p36AKeeperWhoLivesThereIsUnlike() {
        S.found(withRow("n3", 0, 2, 1), UNLIKE, "dealt(0), A by A", o -> o.dealt(0));
        S.found(withRow("n3", 2, 2, 2), UNLIKE, "dealt(0), C by C", o -> o.dealt(0));
    }

    static void p36AKeeperOfTheOtherOneIsUnlike() {
        S.found(withRow("n3 tABC", 2, 2, 1), UNLIKE, "dealt(0), TWO", o -> o.dealt(0));
        S.found(withRow("n3 bCBA", 2, 2, 0), UNLIKE, "dealt(0), BLIND", o -> o.dealt(0));
    }

    static void p36SizeIsAheadOfUnlike() {
        S.found(withRow("n3", 0, 9), SIZE, "dealt(0)", o -> o.dealt(0));
        S.found(withRow("n3", 0, 9, 9, 9), SIZE, "dealt(0)", o -> o.dealt(0));
    }

    static void p36Nothing() {
        S.found(NOTHING, "dealt(5)", o -> o.dealt(5));
    }

    static void p36Bad() {
        S.badOutside("dealt", 0, 5, r -> o -> o.dealt(r));
    }

    static void p36TheEveningStays() {
        CellKeys k = S.jail("n2", 1);
        Due.fill(k, 0, 1, 0);
        k.dealt(0);
        S.tells(k, "out()", k.out(), 2, 1);
    }

    // ---- 37 trades

    private static void trades(String words, int due, int... keepers) {
        CellKeys k = S.jail(words);
        S.is(words + ": trades()", k.trades(), due);
        S.keepers(k, keepers);
    }

    static void p37NoneOfNoCellsOfTwo() {
        S.quiet(new CellKeys(), "trades(), no cells", 0, CellKeys::trades);
        S.quiet(S.jail("n2"), "trades(), two cells", 0, CellKeys::trades);
        S.quiet(S.jail(Sentences.inside(8)), "trades(), all inside", 0, CellKeys::trades);
    }

    static void p37BothWould() {
        trades(TRADE, 1, 1, 0, 3, 2);
    }

    static void p37OnlyOneOfBothWould() {
        trades("n4 kAC lBA1 kCD kDB", 0, 2, 0, 3, 1);
        trades("n4 kAC kBA lCD1 kDB", 0, 2, 0, 3, 1);
        trades("n4 kAC lBA1 lCD9 kDB", 0, 2, 0, 3, 1);
        trades("n4 kAC lBA9 lCD1 kDB", 0, 2, 0, 3, 1);
    }

    static void p37NotWhoKeepsTheSecondKey() {
        trades("n4 tACB lBA1 lCD1 kDB", 0, 2, 0, 3, 1);
        trades("n4 kAC lBA1 lCD1 tDBC", 0, 2, 0, 3, 1);
    }

    static void p37NotInsideOnes() {
        trades("n4 iA lBA1 lCD1 kDB", 0, N, 0, 3, 1);
        trades("n4 kAC lBA1 lCD1 iD", 0, 2, 0, 3, N);
    }

    static void p37NoneCountsNinetyNine() {
        trades(TRADE + " qAC qBD", 1, 1, 0, 3, 2);
    }

    static void p37TheFirstTwoSuchDoors() {
        trades("n8 kAC lBA1 lCD1 kDB kEG lFE1 lGH1 kHF", 1, 1, 0, 3, 2, 6, 4, 7, 5);
    }

    static void p37AgainAndAgain() {
        trades("n4bACBkBAqDC", 2, 3, 2, 0, 0);
    }

    static void p37TwentyAtMost() {
        CellKeys k = S.jail(RING);
        S.is("trades()", k.trades(), 20);
        S.is("trades() again", k.trades(), 20);
    }

    static void p37TheFirstKeysOfTwo() {
        CellKeys k = S.jail("n4bACBkBAqDC");
        k.trades();
        S.door(k, 0, 5, 3, 1, 0);
    }

    static void p37FromNoneTheEveningStays() {
        CellKeys k = S.jail(TRADE, 3, 2);
        S.is("trades()", k.trades(), 1);
        S.tells(k, "out()", k.out(), 12, 3);
        S.keepers(k, 1, 0, 3, 2);
    }
}
