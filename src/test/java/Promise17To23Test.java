/** Promises 17 to 23, sentence by sentence: what it costs to let one out, evenings. */
final class Promise17To23Test {
    private static final int BAD = Sentences.BAD, STATE = Sentences.STATE, N = Sentences.NONE;
    private static final int NOTHING = Sentences.NOTHING, UNLIKE = Sentences.UNLIKE, SIZE = Sentences.SIZE;
    private static final int MIN = Sentences.MIN, MAX = Sentences.MAX;
    private static final Sentences S = new Sentences();

    public static void main(String[] args) throws Exception {
        S.run(Promise17To23Test.class);
    }

    // ---- 17 can

    /** What it costs to let x out, when some others have been. */
    private static void can(int x, int due, String words, int... gone) {
        S.quiet(S.jail(words, gone), "can(" + x + ") in " + words, due, o -> o.can(x));
    }

    static void p17InsideCostsNoughtAndNobody() {
        can(0, 0, "n2 iA");
        can(0, 0, "n2 iA iB qAB", 1);
        can(0, 0, "n8 iA qAB qAC qAD qAE qAF qAG qAH");
        can(7, 0, "n8 iH sAB0 qHA qHG", 0);
    }

    static void p17ItsKeeperWhoIsOutTurnsIt() {
        can(0, 1, "n2 iB kAB", 1);
        can(0, 1, "n8 iH kAH", 7);
        can(0, 1, "n8 iH iC kAH", 7, 2);
        can(0, 1, "n8 iC iD bBCD kAB", 2, 3, 1);
        can(0, 1, "n8 iC lBC1 kAB", 2, 1);
    }

    static void p17WhoIsOutBySprungTurnsNoKey() {
        can(0, N, "n8 sBA0 kAB", 1);
        can(0, N, "n8 sHG0 kAH", 7);
        can(2, N, "n3 sBA0 kCB", 1);
    }

    static void p17OneWhoIsOutCarriesIt() {
        can(0, 2, "n8 iC kAH", 2);
        can(1, 2, "n8 iA kBH", 0);
        can(7, 2, "n8 iG kHA", 6);
        can(1, 2, "n8 iA iH kBG", 0, 7);
    }

    static void p17ItIsCarriedAlsoWhenItsKeeperIsOutBySprung() {
        can(0, 2, "n8 sHA0 kAH iC", 7, 2);
        can(0, 2, "n8 sBA0 kAB iD", 1, 3);
    }

    static void p17WhoIsOutBySprungCarriesNothing() {
        can(0, N, "n8 sBA0 kAC", 1);
        can(0, 3, "n8 sHG0 kAD", 7);
        can(0, N, "n8 sBA0 sCD0 kAH", 1, 2);
    }

    static void p17ItsKeeperDoesNotCarryIt() {
        can(0, N, "n3 sCB0 kAC", 2);
        can(0, N, "n2 sBA0 kAB", 1);
    }

    static void p17ThroughWallsAsManyAsCells() {
        for (int y = 1; y <= 7; y++) {
            can(0, y, "n8 kA" + (char) ('A' + y));
            can(7, y, "n8 kH" + (char) ('H' - y));
        }
        can(3, 2, "n8 kDF");
        can(3, 2, "n8 kDB");
        can(0, 1, "n2");
        can(1, 1, "n2");
    }

    static void p17ThroughWallsAllBetweenAreIn() {
        can(0, N, "n8 sBA0 kAC", 1);
        can(0, N, "n8 sGF0 kAH", 6);
        can(7, N, "n8 sBA0 kHA", 1);
        can(0, N, "n8 iB kAC qAB", 1);
    }

    static void p17ThroughWallsItsKeeperIsIn() {
        can(0, N, "n8 sDC0 kAD", 3);
        can(7, N, "n8 sGF0 kHG", 6);
    }

    static void p17ThroughWallsOthersMayBeOut() {
        can(2, 1, "n8 sBA0 kCD", 1);
        can(2, 1, "n8 sEF0 kCD", 4);
        can(3, 2, "n8 sAB0 sGH0 kDF", 0, 6);
    }

    static void p17NoKeyGoesThroughBlindCells() {
        can(0, N, "n8 kAC bBAC");
        can(7, N, "n8 kHA bBAC");
        can(0, N, "n8 kAH bGAB");
    }

    static void p17NoKeyGoesIntoBlindCells() {
        can(0, N, "n8 bACD");
        can(1, N, "n8 bBAC");
        can(7, N, "n8 bHGF");
    }

    static void p17NoKeyGoesOutOfBlindCells() {
        can(0, N, "n8 kAB bBAC");
        can(7, N, "n8 kHG bGAB");
    }

    static void p17BlindCellsBeyondDoNotMatter() {
        can(1, 1, "n8 kBC bABC bDAB");
        can(4, 2, "n8 kEC bBCD bFAB");
    }

    static void p17BlindOnesAreTurnedAndCarried() {
        can(0, 2, "n8 iC iD bACD", 2, 3);
        can(0, 3, "n8 iC bACD", 2);
        can(0, 4, "n8 iH bACD", 7);
        can(0, 2, "n8 iH kAB bBAC", 7);
        can(0, 2, "n8 iH kAC bBAC", 7);
    }

    static void p17TheLeastOfTheWays() {
        can(0, 1, "n8 iC kAB", 2);
        can(0, 2, "n8 iH kAC", 7);
        can(0, 2, "n8 iH kAD", 7);
        can(0, 1, "n8 iH iB iC kAH", 1, 2, 7);
    }

    static void p17ItsKeeperDoesNotQuarrelInEachWay() {
        can(0, N, "n3 kAB iB qAB", 1);
        can(0, N, "n3 kAB iC qAB", 2);
        can(0, N, "n3 kAB qAB");
        CellKeys k = S.jail("n8 sHA0 kAH iC", 7, 2);
        k.quarrel(0, 7, 1);
        S.is("can(0), carried, its keeper out", k.can(0), N);
    }

    static void p17WhoCarriesDoesNotQuarrel() {
        can(0, 3, "n8 kAD iE qAE", 4);
        can(0, N, "n8 kAC iB qAB", 1);
        can(0, 2, "n8 kAD iE iF qAE", 4, 5);
    }

    static void p17NoneBetweenQuarrels() {
        can(0, N, "n8 kAD qAB");
        can(0, N, "n8 kAD qAC");
        can(3, N, "n8 kDA qDB");
        can(0, 2, "n8 kAD qAB iH", 7);
    }

    static void p17OtherQuarrelsDoNotMatter() {
        can(0, 3, "n8 kAD qAE qAF qAG qAH qBC qCD qBD");
        can(0, 2, "n8 kAH iC qCH", 2);
        can(0, 1, "n8 kAH iH iC qAC", 7, 2);
        can(3, 2, "n8 kDB qDA qDE");
    }

    static void p17TwoKeysAreAddedUp() {
        can(0, 4, "n8 tABD");
        can(0, 4, "n8 tADB");
        can(0, 13, "n8 tAHG");
        can(0, 2, "n8 tAGH iG iH", 6, 7);
        can(0, 3, "n8 tAHG iH", 7);
        can(0, 3, "n8 tAGH iH", 7);
        can(0, 2, "n8 tAHB iH", 7);
        can(0, 3, "n4 tABC iB", 1);
    }

    static void p17OneKeyThatCantBeHadIsEnough() {
        can(0, N, "n8 tABD qAB");
        can(0, N, "n8 tABD qAD");
        can(0, N, "n8 tABD qAC");
        can(0, N, "n8 tADB qAC");
    }

    static void p17LateOnlyWhenSoManyAreOut() {
        can(0, 1, "n3 lAB0");
        can(0, N, "n3 lAB1");
        can(0, N, "n3 lAB1 iB iC");
        can(0, 1, "n3 lAB1 iB iC", 2);
        can(0, 1, "n3 lAB1 iB iC", 1, 2);
        can(0, N, "n3 lAB2 iB iC", 1);
        can(0, 1, "n3 lAB2 iB iC", 1, 2);
        can(0, N, "n3 lAB9 iB iC", 1, 2);
    }

    static void p17LateBySevenOfEight() {
        String others = "iBiCiDiEiFiGiH";
        can(0, 1, "n8 lAB7" + others, 1, 2, 3, 4, 5, 6, 7);
        can(0, N, "n8 lAB7" + others, 1, 2, 3, 4, 5, 6);
        can(0, N, "n8 lAB8" + others, 1, 2, 3, 4, 5, 6, 7);
        can(0, N, "n8 lAB9" + others, 1, 2, 3, 4, 5, 6, 7);
    }

    static void p17LateThoseOutBySprungCount() {
        can(1, 1, "n3 sAB0 lBC1", 0);
        can(1, N, "n3 sAB0 lBC2", 0);
    }

    static void p17LateTheKeyIsWantedToo() {
        can(0, N, "n3 lAB1 iC qAB", 2);
        can(0, 2, "n8 lAH1 iC", 2);
    }

    static void p17SprungIsLate() {
        can(0, 1, "n3 sAB0");
        can(0, N, "n3 sAB1");
        can(0, 1, "n3 sAB1 iC", 2);
        can(0, N, "n3 sAB9 iC iB", 1, 2);
    }

    static void p17OutIsState() {
        for (int x : new int[] {0, 1, 4}) {
            S.refused(STATE, "can(" + x + ")", o -> o.can(x));
        }
    }

    static void p17StateIsAheadOfNone() {
        CellKeys k = S.jail("n2", 0);
        k.quarrel(0, 1, 1);
        S.quiet(k, "can(0)", STATE, o -> o.can(0));
        S.quiet(k, "let(0)", STATE, o -> o.let(0));
        S.quiet(k, "can(1)", N, o -> o.can(1));
    }

    static void p17Bad() {
        S.badOutside("can", 0, 7, x -> o -> o.can(x));
        S.bad("can(32)", o -> o.can(32));
        S.quiet(new CellKeys(), "can(0), no cells", BAD, o -> o.can(0));
        S.quiet(S.jail("n2"), "can(2), two cells", BAD, o -> o.can(2));
    }

    // ---- 18 let

    static void p18IsLetOut() {
        CellKeys k = S.jail("n4 iA kBD sCA1 lDC3");
        S.is("let(0)", k.let(0), 0);
        S.tells(k, "out()", k.out(), 1, 0);
        S.is("let(1)", k.let(1), 2);
        S.tells(k, "out()", k.out(), 3, 2);
        S.is("let(2)", k.let(2), 1);
        S.is("let(3)", k.let(3), 2);
        S.tells(k, "out()", k.out(), 15, 5);
    }

    static void p18AllOfTwoAndAllOfEight() {
        CellKeys k = S.jail("n2", 0, 1);
        S.tells(k, "out()", k.out(), 3, 2);
        k = S.jail(Sentences.inside(8), 7, 6, 5, 4, 3, 2, 1, 0);
        S.tells(k, "out()", k.out(), 255, 0);
        for (int x = 0; x < 8; x++) {
            S.is("let(" + x + ") again", k.let(x), STATE);
        }
    }

    static void p18NoneNothingIsDone() {
        S.quiet(S.jail("n3 iA lBA2 lCA2", 0), "let(1)", N, o -> o.let(1));
        S.quiet(S.jail("n2 qAB"), "let(0)", N, o -> o.let(0));
    }

    static void p18OutIsState() {
        for (int x : new int[] {0, 1, 4}) {
            S.refused(STATE, "let(" + x + ")", o -> o.let(x));
        }
    }

    static void p18Bad() {
        S.badOutside("let", 0, 7, x -> o -> o.let(x));
        S.quiet(new CellKeys(), "let(0), no cells", BAD, o -> o.let(0));
        S.quiet(S.jail("n2"), "let(2), two cells", BAD, o -> o.let(2));
    }

    // ---- 19 out

    static void p19NoneSomeAll() {
        CellKeys k = new CellKeys();
        S.tells(k, "out(), no cells", k.out(), 0, 0);
        k = Sentences.everything();
        S.tells(k, "out()", k.out(), 19, 2);
        k = S.jail("n8", 0, 1, 2, 3, 4, 5, 6, 7);
        S.tells(k, "out(), all", k.out(), 255, 8);
    }

    // ---- 20 bell

    static void p20AnswersHowManyGoIn() {
        CellKeys k = Sentences.everything();
        S.is("bell()", k.bell(), 3);
        S.is("bell() again", k.bell(), 0);
        S.is("bell(), all", S.jail(Sentences.inside(8), 0, 1, 2, 3, 4, 5, 6, 7).bell(), 8);
        S.is("bell(), no cells", new CellKeys().bell(), 0);
    }

    static void p20AllAreInAgain() {
        CellKeys k = Sentences.everything();
        k.bell();
        S.tells(k, "out()", k.out(), 0, 0);
        S.is("let(0)", k.let(0), 0);
        S.is("let(4)", k.let(4), 1);
        S.tells(k, "out()", k.out(), 17, 1);
    }

    static void p20KeptAndSeenStay() {
        CellKeys k = Sentences.everything();
        k.bell();
        S.is("count(5)", k.count(5), 2);
        S.is("on(0)", k.on(0), 3);
        S.is("on(1)", k.on(1), 2);
    }

    // ---- 21 keep

    static void p21PlacesNoughtToTwo() {
        CellKeys k = S.jail(Sentences.inside(8));
        for (int place = 0; place <= 2; place++) {
            k.let(place);
            int kept = place;
            S.is("keep(" + place + ")", k.keep(kept), place + 1);
        }
        for (int place = 0; place <= 2; place++) {
            S.is("on(" + place + ")", k.on(place), place + 1);
        }
        S.badOutside("keep", 0, 2, place -> o -> o.keep(place));
    }

    static void p21NoneAndAllOut() {
        CellKeys k = new CellKeys();
        S.is("keep(0), no cells", k.keep(0), 0);
        S.is("on(0), no cells", k.on(0), 0);
        k = S.jail(Sentences.inside(8));
        S.is("keep(0)", k.keep(0), 0);
        for (int x = 0; x < 8; x++) {
            k.let(x);
        }
        S.is("keep(1)", k.keep(1), 8);
        S.is("on(0)", k.on(0), 0);
        S.is("on(1)", k.on(1), 8);
    }

    static void p21TheEveningGoesOnAndTheKeptOneStays() {
        CellKeys k = Sentences.everything();
        S.is("keep(2)", k.keep(2), 3);
        S.tells(k, "out()", k.out(), 19, 2);
        k.let(6);
        S.is("on(2)", k.on(2), 3);
        S.tells(k, "out()", k.out(), 19, 2);
    }

    static void p21KeptAnewTheOldOneGoes() {
        CellKeys k = Sentences.everything();
        k.bell();
        S.is("keep(0)", k.keep(0), 0);
        S.is("on(0)", k.on(0), 0);
        S.is("on(1)", k.on(1), 2);
    }

    // ---- 22 on

    static void p22TheEveningIsAsItWas() {
        CellKeys k = Sentences.everything();
        S.is("on(1)", k.on(1), 2);
        S.tells(k, "out()", k.out(), 3, 1);
        S.is("on(0)", k.on(0), 3);
        S.tells(k, "out()", k.out(), 19, 2);
        S.is("on(1) again", k.on(1), 2);
        S.tells(k, "out()", k.out(), 3, 1);
    }

    static void p22TheJailAsItIs() {
        CellKeys k = S.jail("n3 iA", 0);
        k.keep(0);
        k.key(1, 0);
        k.quarrel(0, 2, 1);
        k.bell();
        S.is("on(0)", k.on(0), 1);
        S.door(k, 1, 0, 0, N, 0);
        S.is("foes(0)", k.foes(0), 4);
        S.is("can(2)", k.can(2), N);
        S.is("can(1)", k.can(1), 1);
    }

    static void p22Nothing() {
        S.found(NOTHING, "on(2)", o -> o.on(2));
    }

    static void p22Bad() {
        S.badOutside("on", 0, 2, place -> o -> o.on(place));
        S.quiet(new CellKeys(), "on(3)", BAD, o -> o.on(3));
    }

    // ---- 23 lets

    private static void lets(CellKeys k, int due, int favours, int... places) {
        Due.fill(k, 5, places);
        S.tells(k, "lets(5)", k.lets(5), due, favours);
    }

    static void p23FromNoneTheEveningStays() {
        CellKeys k = Sentences.everything();
        long before = k.digest();
        S.tells(k, "lets(3)", k.lets(3), 3, 0 + 1 + 2);
        S.is("digest()", k.digest(), before);
        S.tells(k, "out()", k.out(), 19, 2);
    }

    static void p23OneBehindTheOtherTillOneCantBe() {
        CellKeys k = S.jail("n4 iA lBA2 kCA kDA");
        lets(k, 4, 3, 0, 2, 1, 3);
        lets(k, 1, 0, 0, 1, 2, 3);
        lets(k, 4, 5, 2, 3, 1, 0);
        lets(k, 0, 0, 1, 0, 2);
        lets(k, 1, 2, 2, 1, 0);
        lets(k, 1, 3, 3);
    }

    static void p23NoneOfARow() {
        CellKeys k = S.jail("n2", 0);
        k.out();
        lets(k, 0, 0);
        lets(new CellKeys(), 0, 0);
    }

    static void p23AsManyAsCells() {
        lets(S.jail("n2"), 2, 2, 1, 0);
        lets(S.jail(Sentences.inside(8)), 8, 0, 7, 6, 5, 4, 3, 2, 1, 0);
    }

    static void p23MoreThanCellsIsSize() {
        CellKeys k = S.jail("n2");
        Due.fill(k, 0, 0, 1, 1);
        S.found(k, SIZE, "lets(0) of three, two cells", o -> o.lets(0));
        S.found(SIZE, "lets(2) of sixty", o -> o.lets(2));
        CellKeys none = new CellKeys();
        none.row(0, 1);
        S.found(none, SIZE, "lets(0) of one, no cells", o -> o.lets(0));
        CellKeys eight = S.jail("n8");
        Due.fill(eight, 0, 0, 1, 2, 3, 4, 5, 6, 7, 8);
        S.found(eight, SIZE, "lets(0) of nine", o -> o.lets(0));
    }

    static void p23NoCellIsUnlike() {
        for (int x : new int[] {-1, 8, 32, N, MIN, MAX}) {
            CellKeys k = Sentences.everything();
            Due.fill(k, 5, 0, x);
            S.found(k, UNLIKE, "lets(5) of " + x, o -> o.lets(5));
        }
        S.found(UNLIKE, "lets(0)", o -> o.lets(0));
    }

    static void p23TwiceIsUnlike() {
        S.found(UNLIKE, "lets(4)", o -> o.lets(4));
        CellKeys k = Sentences.everything();
        Due.fill(k, 5, 0, 1, 2, 3, 4, 5, 6, 0);
        S.found(k, UNLIKE, "lets(5)", o -> o.lets(5));
    }

    static void p23UnlikeAlsoBehindOneThatCantBe() {
        CellKeys k = S.jail("n3 iA lBA9");
        Due.fill(k, 0, 1, 3);
        S.found(k, UNLIKE, "lets(0) of no cell", o -> o.lets(0));
        Due.fill(k, 0, 1, 0, 0);
        S.found(k, UNLIKE, "lets(0) of one twice", o -> o.lets(0));
    }

    static void p23Nothing() {
        S.found(NOTHING, "lets(5)", o -> o.lets(5));
    }

    static void p23Bad() {
        S.badOutside("lets", 0, 5, r -> o -> o.lets(r));
    }
}
