/** Promises 24 to 32, sentence by sentence: who can be out. */
final class Promise24To32Test {
    private static final int BAD = Sentences.BAD, N = Sentences.NONE;
    /** A is out for nothing; D by A, then B and C by D, cost one each. */
    private static final String CHAIN = "n4 iA kBD kCD kDA";
    /** A for nothing, then B, then C, by one each, and not otherwise. */
    private static final String LINE = "n3 iA lBA1 lCA2";
    /** Reached are none, each one, A and C by three favours, B and C by two. */
    private static final String SHUT = "n3 sAC0 sBA0 sCB0";
    /** Nobody can be let out. */
    private static final String NOBODY = "n2 qAB";
    private static final Sentences S = new Sentences();

    public static void main(String[] args) throws Exception {
        S.run(Promise24To32Test.class);
    }

    // ---- 24 least

    private static void least(String words, int set, int due, int asked) {
        CellKeys k = S.jail(words);
        long before = k.digest();
        S.tells(k, words + ": least(" + set + ")", k.least(set), due, asked);
        S.is("digest()", k.digest(), before);
    }

    static void p24TheFewestFavours() {
        least(CHAIN, 1, 0, 1);
        least(CHAIN, 4, 1, 4);
        least(CHAIN, 6, 3, 6);
        least(CHAIN, 9, 1, 9);
        least(CHAIN, 15, 3, 15);
        least(SHUT, 4, 1, 4);
    }

    static void p24AndPerhapsOthers() {
        least(LINE, 4, 2, 7);
        least(LINE, 2, 1, 3);
        least(CHAIN, 8, 1, 9);
        least(CHAIN, 14, 3, 15);
    }

    static void p24TheFirstSetIsThatOfTheLeastBits() {
        least(CHAIN, 2, 2, 2);
        least("n2 iA iB", 1, 0, 1);
        least("n2 iA iB", 2, 0, 2);
        least("n5 iA lBA1 kCA kDB iE qAD qCD", 8, 2, 11);
    }

    static void p24OfNoneAndOfAll() {
        S.tells(new CellKeys(), "no cells: least(0)", new CellKeys().least(0), 0, 0);
        least(LINE, 0, 0, 0);
        least("n2", 0, 0, 0);
        least("n2", 3, 2, 3);
        least(Sentences.inside(8), 0, 0, 0);
        least(Sentences.inside(8), 255, 0, 255);
    }

    static void p24None() {
        S.quiet(S.jail("n2 lAB9"), "least(1)", N, o -> o.least(1));
        S.quiet(S.jail("n2 lAB9"), "least(3)", N, o -> o.least(3));
        S.quiet(S.jail(SHUT), "least(3)", N, o -> o.least(3));
        CellKeys k = S.jail(LINE + " qAB");
        k.least(1);
        S.quiet(k, "least(2) behind least(1)", N, o -> o.least(2));
    }

    static void p24FromNoneWhoeverIsOut() {
        CellKeys k = S.jail(CHAIN, 0, 2, 1);
        S.tells(k, "least(8)", k.least(8), 1, 9);
        S.tells(k, "least(2)", k.least(2), 2, 2);
        S.tells(k, "out()", k.out(), 7, 3);
    }

    static void p24Bad() {
        S.badOutside("least", 0, 255, set -> o -> o.least(set));
        S.quiet(new CellKeys(), "least(1), no cells", BAD, o -> o.least(1));
        S.quiet(S.jail("n2"), "least(4), two cells", BAD, o -> o.least(4));
    }

    // ---- 25 order

    private static void order(String words, int set, int due, int... places) {
        CellKeys k = S.jail(words);
        k.row(0, 60);
        S.is(words + ": order(" + set + ", 0)", k.order(set, 0), due);
        S.row(k, 0, places);
        S.is(words + ": order(" + set + ", 5)", k.order(set, 5), due);
        S.row(k, 5, places);
    }

    static void p25TheFirstOrderByCells() {
        order(CHAIN, 15, 3, 0, 2, 3, 1);
        order("n2 iA iB", 3, 0, 0, 1);
        order("n3 iC kAC kBC", 7, 2, 1, 2, 0);
        order("n8", 255, 8, 0, 1, 2, 3, 4, 5, 6, 7);
    }

    static void p25ByTheFewestFavours() {
        order("n3 iC kAC", 5, 1, 2, 0);
        order("n8 iH kAH", 129, 1, 7, 0);
    }

    static void p25JustASet() {
        order(CHAIN, 14, 4, 2, 3, 1);
        order(CHAIN, 8, 3, 3);
        order(CHAIN, 2, 2, 1);
    }

    static void p25OfNoneARowOfNone() {
        order(CHAIN, 0, 0);
        CellKeys k = new CellKeys();
        S.is("order(0, 3), no cells", k.order(0, 3), 0);
        S.row(k, 3);
    }

    static void p25NoneTheRowStays() {
        S.refused(N, "order(8, 0)", o -> o.order(8, 0));
        S.refused(N, "order(8, 5)", o -> o.order(8, 5));
        S.refused(N, "order(32, 2)", o -> o.order(32, 2));
    }

    static void p25OneBehindTheOtherOnOneObject() {
        CellKeys k = S.jail("n2");
        for (int set : new int[] {3, 1, 2, 3, 0, 1}) {
            S.is("order(" + set + ", 0)", k.order(set, 0), Integer.bitCount(set));
        }
        S.row(k, 0, 0);
        k.quarrel(0, 1, 1);
        S.is("order(1, 0), they quarrel", k.order(1, 0), N);
        S.is("order(0, 0), they quarrel", k.order(0, 0), 0);
    }

    static void p25FromNoneTheEveningStays() {
        CellKeys k = Sentences.everything();
        S.is("order(11, 5)", k.order(11, 5), 2);
        S.row(k, 5, 0, 1, 3);
        S.tells(k, "out()", k.out(), 19, 2);
        S.is("kept", k.on(1), 2);
    }

    static void p25Bad() {
        S.badOutside("order's set", 0, 255, set -> o -> o.order(set, 0));
        S.badOutside("order's row", 0, 5, r -> o -> o.order(1, r));
        S.quiet(new CellKeys(), "order(1, 0), no cells", BAD, o -> o.order(1, 0));
        S.quiet(S.jail("n2"), "order(4, 0), two cells", BAD, o -> o.order(4, 0));
    }

    static void p25BadIsAheadOfNone() {
        S.bad("order(8, 6)", o -> o.order(8, 6));
        S.bad("order(8, -1)", o -> o.order(8, -1));
    }

    // ---- 26 reached

    private static void reached(String words, int due, int asked) {
        CellKeys k = S.jail(words);
        long before = k.digest();
        S.tells(k, words + ": reached()", k.reached(), due, asked);
        S.is("digest()", k.digest(), before);
    }

    static void p26NoneIsASetReached() {
        reached(NOBODY, 1, 0);
        CellKeys k = new CellKeys();
        S.tells(k, "no cells: reached()", k.reached(), 1, 0);
    }

    static void p26HowManyAndTheGreatestNumber() {
        reached(LINE, 4, 3);
        reached(CHAIN, 16, 4);
        reached(SHUT, 6, 2);
        reached("n2", 4, 2);
        reached("n2 lAB9", 2, 1);
        reached(Sentences.inside(8), 256, 8);
    }

    static void p26FromNoneWhoeverIsOut() {
        CellKeys k = S.jail(SHUT, 1);
        S.tells(k, "reached()", k.reached(), 6, 2);
    }

    // ---- 27 most

    private static void most(String words, int due, int asked) {
        CellKeys k = S.jail(words);
        long before = k.digest();
        S.tells(k, words + ": most()", k.most(), due, asked);
        S.is("digest()", k.digest(), before);
    }

    static void p27NobodyAndAll() {
        most(NOBODY, 0, 0);
        most("n2", 3, 2);
        most(Sentences.inside(8), 255, 0);
        most("n8", 255, 8);
        CellKeys k = new CellKeys();
        S.tells(k, "no cells: most()", k.most(), 0, 0);
    }

    static void p27TheGreatestWhateverItCosts() {
        most(LINE, 7, 2);
        most(CHAIN, 15, 3);
        most("n3 sAC0 sBC0 sCA0", 3, 3);
    }

    static void p27OfAlikeOnesTheFewestFavours() {
        most(SHUT, 6, 2);
        most("n8 sAC0 sBA0 sCB0 lDA9 lEA9 lFA9 lGA9 lHA9", 6, 2);
    }

    static void p27ThenTheLeastBits() {
        most("n2 sAB0 sBA0", 1, 1);
    }

    static void p27FromNoneWhoeverIsOut() {
        CellKeys k = S.jail(SHUT, 0);
        S.tells(k, "most()", k.most(), 6, 2);
    }

    // ---- 28 ever

    private static void ever(String words, int due, int asked) {
        CellKeys k = S.jail(words);
        long before = k.digest();
        S.tells(k, words + ": ever()", k.ever(), due, asked);
        S.is("digest()", k.digest(), before);
    }

    static void p28WhoIsInSomeAndWhoIsInNone() {
        ever(LINE, 7, 0);
        ever(SHUT, 7, 0);
        ever("n2 lAB9", 2, 1);
        ever("n3 iB qAB qAC lCA9", 2, 5);
    }

    static void p28NobodyAndAll() {
        ever(NOBODY, 0, 3);
        ever("n2", 3, 0);
        ever(Sentences.inside(8), 255, 0);
        ever("n8 lAB9 lBC9 lCD9 lDE9 lEF9 lFG9 lGH9 lHA9", 0, 255);
        CellKeys k = new CellKeys();
        S.tells(k, "no cells: ever()", k.ever(), 0, 0);
    }

    static void p28FromNoneWhoeverIsOut() {
        CellKeys k = S.jail("n2 iA", 0);
        k.quarrel(0, 1, 1);
        S.tells(k, "ever()", k.ever(), 1, 2);
        k = S.jail("n2", 1);
        k.quarrel(0, 1, 1);
        S.tells(k, "ever(), who is out is in none", k.ever(), 0, 3);
    }

    // ---- 29 ways

    private static void ways(String words, int set, int due) {
        S.quiet(S.jail(words), words + ": ways(" + set + ")", due, o -> o.ways(set));
    }

    static void p29WhateverItCosts() {
        ways(CHAIN, 15, 24);
        ways(CHAIN, 3, 2);
        ways(LINE, 7, 1);
        ways(SHUT, 5, 1);
        ways(SHUT, 6, 1);
    }

    static void p29OfNoneOfOneOfAll() {
        ways("n2", 0, 1);
        ways("n2", 3, 2);
        ways(Sentences.inside(8), 0, 1);
        ways(Sentences.inside(8), 128, 1);
        ways(Sentences.inside(8), 255, 40320);
        S.quiet(new CellKeys(), "ways(0), no cells", 1, o -> o.ways(0));
    }

    static void p29NoughtOfASetThatIsNotReached() {
        ways(LINE, 6, 0);
        ways(LINE, 2, 0);
        ways(SHUT, 7, 0);
        ways(SHUT, 3, 0);
        ways(NOBODY, 1, 0);
    }

    static void p29OneBehindTheOtherOnOneObject() {
        CellKeys k = S.jail(CHAIN);
        int[] sets = {15, 1, 7, 0, 14, 15};
        int[] dues = {24, 1, 6, 1, 6, 24};
        for (int i = 0; i < sets.length; i++) {
            S.is("ways(" + sets[i] + ")", k.ways(sets[i]), dues[i]);
        }
        k.quarrel(1, 3, 1);
        S.is("ways(15), B and D quarrel", k.ways(15), 0);
        S.is("ways(13), B and D quarrel", k.ways(13), 4);
    }

    static void p29Bad() {
        S.badOutside("ways", 0, 255, set -> o -> o.ways(set));
        S.quiet(new CellKeys(), "ways(1), no cells", BAD, o -> o.ways(1));
        S.quiet(S.jail("n2"), "ways(4), two cells", BAD, o -> o.ways(4));
    }

    // ---- 30 ring

    private static void ring(String words, int x, int due, int asked) {
        CellKeys k = S.jail(words);
        long before = k.digest();
        S.tells(k, words + ": ring(" + x + ")", k.ring(x), due, asked);
        S.is("digest()", k.digest(), before);
    }

    static void p30TillOneComesAgain() {
        ring("n2", 0, 2, 2);
        ring("n8", 0, 8, 8);
        ring("n8", 7, 8, 8);
        ring("n4 kBA", 0, 2, 2);
    }

    static void p30ATailDoesNotLieInTheRing() {
        ring("n4 kAB kBC kCB", 0, 3, 2);
        ring("n4 kAB kBC kCB", 3, 4, 2);
        ring("n8 kHG", 0, 8, 2);
        ring("n8 kDB", 0, 4, 3);
    }

    static void p30AnInsideOneCountsAndThereIsNoRing() {
        ring("n2 iA", 0, 1, 0);
        ring("n2 iA", 1, 2, 0);
        ring("n8 iH", 0, 8, 0);
        ring("n8 iA", 1, 8, 0);
        ring("n8 iH", 6, 2, 0);
    }

    static void p30TheFirstKeys() {
        ring("n3 tABC tBAC", 0, 2, 2);
        ring("n3 bACB kCA", 0, 2, 2);
        ring("n3 lAB9 sBA9", 1, 2, 2);
    }

    static void p30Bad() {
        S.badOutside("ring", 0, 7, x -> o -> o.ring(x));
        S.quiet(new CellKeys(), "ring(0), no cells", BAD, o -> o.ring(0));
        S.quiet(S.jail("n2"), "ring(2), two cells", BAD, o -> o.ring(2));
    }

    // ---- 31 ill

    private static void ill(String words, int x, int due, int asked) {
        CellKeys k = S.jail(words);
        long before = k.digest();
        S.tells(k, words + ": ill(" + x + ")", k.ill(x), due, asked);
        S.is("digest()", k.digest(), before);
    }

    static void p31AnotherOne() {
        ill("n2 iA", 0, 1, 1);
        ill("n2 iB", 1, 1, 0);
        ill("n2 iA", 1, 0, 0);
        ill("n8 kHA iA", 7, 0, 0);
    }

    static void p31TheFewestFavours() {
        ill(CHAIN, 0, 1, 2);
        ill(CHAIN, 1, 0, 0);
        ill("n8 kAD iA kBD kCE kDA kEH kFA kGA kHA", 0, 1, 3);
    }

    static void p31OfAlikeOnesTheLeast() {
        ill("n3 iA iB iC", 0, 0, 1);
        ill("n3 iA iB iC", 2, 0, 0);
        ill(Sentences.inside(8), 7, 0, 0);
    }

    static void p31WhoDoesNotQuarrelWithThat() {
        ill(CHAIN + " qBA", 1, 1, 2);
        ill("n3 iA iB iC qAB", 0, 0, 2);
        ill("n3 iA iB iC qBC", 0, 0, 1);
    }

    static void p31NotBySprung() {
        ill("n3 iA sBA0 kCA", 0, 1, 2);
        ill("n4 iA sBA0 lCA0 kDA", 0, 1, 2);
    }

    static void p31TheIllOneMayHelp() {
        ill(CHAIN + " qAC", 0, 1, 3);
    }

    static void p31None() {
        S.quiet(S.jail("n2 iA sBA0"), "ill(0), SPRUNG", N, o -> o.ill(0));
        S.quiet(S.jail("n2 iA iB qAB"), "ill(0), they quarrel", N, o -> o.ill(0));
        S.quiet(S.jail("n2 iA lBA9"), "ill(0), never out", N, o -> o.ill(0));
        CellKeys k = S.jail("n3 iA iB iC qAB qAC");
        Due.fill(k, 0, 5);
        k.at(0, 0);
        S.quiet(k, "ill(0), all quarrel", N, o -> o.ill(0));
    }

    static void p31FromNoneWhoeverIsOut() {
        CellKeys k = S.jail("n2", 1);
        S.tells(k, "ill(0)", k.ill(0), 1, 1);
    }

    static void p31Bad() {
        S.badOutside("ill", 0, 7, x -> o -> o.ill(x));
        S.quiet(new CellKeys(), "ill(0), no cells", BAD, o -> o.ill(0));
        S.quiet(S.jail("n2"), "ill(2), two cells", BAD, o -> o.ill(2));
    }

    // ---- 32 without

    private static void without(String words, int x, int due, int asked) {
        CellKeys k = S.jail(words);
        long before = k.digest();
        S.tells(k, words + ": without(" + x + ")", k.without(x), due, asked);
        S.is("digest()", k.digest(), before);
    }

    static void p32ByHowManyFewerSets() {
        without(LINE, 0, 3, 6);
        without(LINE, 1, 2, 4);
        without(LINE, 2, 1, 0);
        without("n2", 0, 3, 2);
        without("n2", 1, 3, 1);
        without(Sentences.inside(8), 7, 128, 0);
        without(Sentences.inside(8), 0, 128, 0);
    }

    static void p32NoFewer() {
        without(NOBODY, 0, 0, 0);
        without("n3 lAB9 iB iC", 0, 0, 0);
    }

    static void p32OnlyWhoWasInSome() {
        without("n3 iA lBA9 kCA", 0, 3, 4);
    }

    static void p32ItsKeysAreNotGiven() {
        without("n3 iA iB kCA", 0, 6, 4);
        without("n3 tABC iB iC", 1, 6, 1);
        without("n3 tABC iB iC", 2, 6, 1);
    }

    static void p32NothingGoesThroughItsCell() {
        without("n3 kAC lBA9 lCA9", 1, 1, 1);
        without("n3 kAC lBA9 lCA9", 2, 1, 1);
        without("n4 kAC lBA9 lCA9 lDA9", 3, 0, 0);
    }

    static void p32ItCarriesNothing() {
        without("n4 iA kBD lCA9 lDA9 qBC", 0, 2, 2);
    }

    static void p32ItDoesNotCountAsOut() {
        without("n3 iA iB lCB1", 0, 4, 0);
        without("n3 iA iB lCB2", 0, 3, 4);
    }

    static void p32OneBehindTheOtherOnOneObject() {
        CellKeys k = S.jail(LINE);
        S.tells(k, "without(0)", k.without(0), 3, 6);
        S.tells(k, "reached()", k.reached(), 4, 3);
        S.tells(k, "without(2)", k.without(2), 1, 0);
        S.tells(k, "without(0)", k.without(0), 3, 6);
        S.tells(k, "least(4)", k.least(4), 2, 7);
    }

    static void p32FromNoneWhoeverIsOut() {
        CellKeys k = S.jail(LINE, 0, 1);
        S.tells(k, "without(0)", k.without(0), 3, 6);
        S.tells(k, "out()", k.out(), 3, 1);
    }

    static void p32Bad() {
        S.badOutside("without", 0, 7, x -> o -> o.without(x));
        S.quiet(new CellKeys(), "without(0), no cells", BAD, o -> o.without(0));
        S.quiet(S.jail("n2"), "without(2), two cells", BAD, o -> o.without(2));
    }
}
