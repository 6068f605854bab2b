/** Promises 10 to 16, sentence by sentence: faults, jails, doors, marks, keys, quarrels. */
final class Promise10To16Test {
    private static final int BAD = Sentences.BAD, STATE = Sentences.STATE, N = Sentences.NONE;
    private static final int NOTHING = Sentences.NOTHING, UNLIKE = Sentences.UNLIKE;
    private static final int KINDS_OF_DOORS = 6;
    private static final Sentences S = new Sentences();

    public static void main(String[] args) throws Exception {
        S.run(Promise10To16Test.class);
    }

    // ---- 10 fault

    private static void fault(String words, int due) {
        CellKeys k = new CellKeys();
        Due.write(k, 0, words);
        S.is("fault of '" + words + "'", k.fault(0), due);
    }

    /** The fault of a text with any byte behind it, which stands at its place unless it goes on. */
    private static void lastByte(String words, String goesOn, int dueThen) {
        for (int v = -128; v <= 127; v++) {
            CellKeys k = new CellKeys();
            Due.write(k, 0, words + "?");
            k.put(0, words.length(), v);
            S.is("fault of '" + words + "' and byte " + v, k.fault(0),
                    goesOn.indexOf(v) >= 0 ? dueThen : words.length());
        }
    }

    static void p10NoneThereIsNone() {
        fault("n2", N);
        fault("n3iAkBCtCABlAB0sBC9bCAB", N);
        fault("n8tHGFqGH", N);
    }

    static void p10BlanksAheadBetweenBehind() {
        fault(" n2", N);
        fault("n2 ", N);
        fault("      n2      ", N);
        fault("   n3   iA   qBC   ", N);
    }

    static void p10NoBlanksAreWanted() {
        fault("n3iAqBC", N);
        fault("n3lAB1qBC", N);
    }

    static void p10NoBlanksWithinItems() {
        fault("n 3", 1);
        fault("n3 k AB", 4);
        fault("n3 kA B", 5);
        fault("n3 q AB", 4);
        fault("n3 qA B", 5);
        fault("n3 tA BC", 5);
        fault("n3 tAB C", 6);
        fault("n3 bAB C", 6);
        fault("n3 i A", 4);
        fault("n3 lAB 1", 6);
        fault("n3 sAB 1", 6);
    }

    static void p10OnlyBlanksAreBlanks() {
        lastByte("", " n", 1);
        fault("\tn2", 0);
        fault("n2\n", 2);
    }

    static void p10CellsTwoToEight() {
        lastByte("n", "2345678", N);
        lastByte(" n", "2345678", N);
    }

    static void p10CellsAreOneFigure() {
        fault("n22", 2);
        fault("n10", 1);
        fault("n02", 1);
    }

    static void p10NIsTheFirstItem() {
        fault("kAB", 0);
        fault("iA n2", 0);
        fault(" qAB n2", 1);
        fault("2n", 0);
    }

    static void p10NoN() {
        fault("", 0);
        fault(" ", 1);
        fault("     ", 5);
    }

    static void p10NIsNoOther() {
        fault("n2n2", 2);
        fault("n2 iA n2", 6);
    }

    static void p10FirstSignsOfItems() {
        for (int v = -128; v <= 127; v++) {
            CellKeys k = new CellKeys();
            Due.write(k, 0, "n2?");
            k.put(0, 2, v);
            int due = v == 32 ? N : "ktilsbq".indexOf(v) >= 0 ? 3 : 2;
            S.is("fault of an item of byte " + v, k.fault(0), due);
        }
    }

    static void p10FirstLetters() {
        for (String item : new String[] {"k", "t", "l", "s", "b", "q"}) {
            lastByte("n3" + item, "ABC", 4);
        }
        lastByte("n3i", "ABC", N);
    }

    static void p10SecondLettersAreUnlikeTheFirst() {
        lastByte("n3kB", "AC", N);
        lastByte("n3qB", "AC", N);
        lastByte("n3tB", "AC", 5);
        lastByte("n3bB", "AC", 5);
        lastByte("n3lB", "AC", 5);
        lastByte("n3sB", "AC", 5);
    }

    static void p10ThirdLettersAreUnlikeBoth() {
        lastByte("n4tBA", "CD", N);
        lastByte("n4tAD", "BC", N);
        lastByte("n4bBA", "CD", N);
        lastByte("n4bCD", "AB", N);
        fault("n2tABC", 5);
    }

    static void p10LettersAreThoseOfCells() {
        lastByte("n2i", "AB", N);
        lastByte("n8i", "ABCDEFGH", N);
        lastByte("n8kH", "ABCDEFG", N);
        lastByte("n7kA", "BCDEFG", N);
    }

    static void p10FiguresNoughtToNine() {
        lastByte("n2lAB", "0123456789", N);
        lastByte("n2sBA", "0123456789", N);
        fault("n2lAB10", 6);
    }

    static void p10EndTooEarly() {
        String[] items = {"n3", "kAB", "qAB", "tABC", "bABC", "iA", "lAB1", "sAB1"};
        for (String item : items) {
            String head = item.equals("n3") ? "" : "n3 ";
            for (int cut = 1; cut < item.length(); cut++) {
                fault(head + item.substring(0, cut), head.length() + cut);
            }
            fault(head + item, N);
        }
    }

    static void p10TheFirstPlace() {
        fault("n3 kAA kDD", 5);
        fault("n3 kAB ! kAA", 7);
        fault("n9!", 1);
    }

    static void p10FullTexts() {
        StringBuilder words = new StringBuilder("n2");
        while (words.length() < 100) {
            words.append(' ');
        }
        fault(words.toString(), N);
        words.setCharAt(99, 'x');
        fault(words.toString(), 99);
        words.setCharAt(99, 'i');
        fault(words.toString(), 100);
        words.setCharAt(98, 'i');
        words.setCharAt(99, 'A');
        fault(words.toString(), N);
        words.setCharAt(99, 'C');
        fault(words.toString(), 99);
    }

    static void p10NothingIsChanged() {
        S.quiet(Sentences.everything(), "fault(0)", N, o -> o.fault(0));
        S.quiet(Sentences.everything(), "fault(1)", 0, o -> o.fault(1));
        S.quiet(Sentences.everything(), "fault(2)", 2, o -> o.fault(2));
    }

    static void p10AFaultLeavesNothingBehind() {
        CellKeys k = new CellKeys();
        for (String cut : new String[] {"n", "n2k", "n2kA", "n3tAB", "n3lAB", "n3sA", "n2x", ""}) {
            Due.write(k, 0, cut);
            S.is("fault of '" + cut + "'", k.fault(0), cut.equals("n2x") ? 2 : cut.length());
            Due.write(k, 0, " n2 iA ");
            S.is("fault of a good one behind '" + cut + "'", k.fault(0), N);
            Due.write(k, 0, "iA");
            S.is("fault of one without n behind a good one", k.fault(0), 0);
        }
    }

    static void p10Bad() {
        S.badOutside("fault", 0, 3, t -> o -> o.fault(t));
    }

    static void p10Nothing() {
        S.found(NOTHING, "fault(3)", o -> o.fault(3));
    }

    // ---- 11 jail

    static void p11AnswersHowManyCells() {
        for (int n = 2; n <= 8; n++) {
            CellKeys k = S.jail("n" + n);
            S.is("jail(3) of n" + n, k.jail(3), n);
            S.is("count(0) of n" + n, k.count(0), n);
        }
    }

    static void p11DoorsOfWhichNothingIsTold() {
        for (int n = 2; n <= 8; n++) {
            CellKeys k = S.jail("n" + n);
            for (int x = 0; x < n; x++) {
                S.door(k, x, 0, x == n - 1 ? 0 : x + 1, N, 0);
            }
            S.is("door behind the last of n" + n, k.door(n, 0), BAD);
        }
    }

    static void p11EveryKind() {
        CellKeys k = S.jail("n8kAHtBACiClDE9sEF0bFGAlGH0sHA9");
        S.door(k, 0, 0, 7, N, 0);
        S.door(k, 1, 1, 0, 2, 0);
        S.door(k, 2, 2, N, N, 0);
        S.door(k, 3, 3, 4, N, 9);
        S.door(k, 4, 4, 5, N, 0);
        S.door(k, 5, 5, 6, 0, 0);
        S.door(k, 6, 3, 7, N, 0);
        S.door(k, 7, 4, 0, N, 9);
    }

    static void p11TheLastToldOfADoorCounts() {
        String[] items = {"kAB", "tABC", "iA", "lAC3", "sAB4", "bACB"};
        int[][] dues = {{0, 1, N, 0}, {1, 1, 2, 0}, {2, N, N, 0}, {3, 2, N, 3}, {4, 1, N, 4}, {5, 2, 1, 0}};
        for (int a = 0; a < KINDS_OF_DOORS; a++) {
            for (int b = 0; b < KINDS_OF_DOORS; b++) {
                CellKeys k = S.jail("n3 " + items[a] + " " + items[b]);
                S.door(k, 0, dues[b]);
                S.is("TWO doors", k.count(2), b == 1 || b == 5 ? 1 : 0);
                S.is("LATE doors", k.count(3), b == 3 || b == 4 ? 1 : 0);
            }
        }
    }

    static void p11ASprungOneThatIsToldAnewHoldsNobody() {
        S.is("turned", S.jail("n3 sBA0 kBA iC lAB2", 1, 2).can(0), 1);
        S.is("carried", S.jail("n8 sBA0 iB kAH", 1).can(0), 2);
        S.is("a blind one's walls", S.jail("n8 bBAC kBA kAC").can(0), 2);
    }

    static void p11QuarrelsOnceOrMore() {
        CellKeys k = S.jail("n3 qAB qAB qBA");
        S.is("foes(0)", k.foes(0), 2);
        S.is("foes(1)", k.foes(1), 1);
        S.is("foes(2)", k.foes(2), 0);
        S.is("count(4)", k.count(4), 1);
    }

    static void p11AnewNothingOfTheOldIsLeft() {
        CellKeys k = Sentences.everything();
        k.text(3, 2);
        k.put(3, 0, 'n');
        k.put(3, 1, '3');
        S.is("jail(3)", k.jail(3), 3);
        for (int x = 0; x < 3; x++) {
            S.door(k, x, 0, (x + 1) % 3, N, 0);
            S.is("foes(" + x + ")", k.foes(x), 0);
        }
        S.is("pairs", k.count(4), 0);
        S.is("TWO doors", k.count(2), 0);
        S.is("LATE doors", k.count(3), 0);
        S.is("door(3, 0)", k.door(3, 0), BAD);
        S.is("jail(0)", k.jail(0), 8);
        S.is("quarrels of more cells", k.count(4), 1);
    }

    static void p11NothingOfATextReadAheadIsLeft() {
        CellKeys k = new CellKeys();
        Due.write(k, 0, "n3 qAB qBC tABC iB sCA3");
        k.fault(0);
        Due.write(k, 1, "n3 qAC iC q");
        k.jail(1);
        Due.write(k, 2, "n3");
        S.is("jail(2)", k.jail(2), 3);
        for (int x = 0; x < 3; x++) {
            S.door(k, x, 0, (x + 1) % 3, N, 0);
            S.is("foes(" + x + ")", k.foes(x), 0);
        }
        k.jail(0);
        S.is("jail(2) again", k.jail(2), 3);
        S.is("count(4)", k.count(4), 0);
        S.is("count(2)", k.count(2), 0);
        S.is("count(3)", k.count(3), 0);
        S.is("can(0)", k.can(0), 1);
    }

    static void p11OfAFullText() {
        StringBuilder words = new StringBuilder("n8");
        while (words.length() < 98) {
            words.append(' ');
        }
        CellKeys k = S.jail(words + "iH");
        S.is("count(0)", k.count(0), 8);
        S.door(k, 7, 2, N, N, 0);
    }

    static void p11AllAreIn() {
        CellKeys k = Sentences.everything();
        k.jail(0);
        S.tells(k, "out()", k.out(), 0, 0);
        S.is("count(1)", k.count(1), 0);
        S.is("bell()", k.bell(), 0);
    }

    static void p11KeptEveningsGo() {
        CellKeys k = Sentences.everything();
        k.keep(2);
        k.jail(0);
        for (int place = 0; place <= 2; place++) {
            int kept = place;
            S.found(k, NOTHING, "on(" + place + ")", o -> o.on(kept));
        }
    }

    static void p11WhatWasSeenGoes() {
        CellKeys k = Sentences.everything();
        k.jail(0);
        S.is("count(5)", k.count(5), 0);
        S.is("forget(1)", k.forget(1), BAD);
        S.is("saw(1, 1)", k.saw(1, 1), 0);
    }

    static void p11RowsTextsAndWhatWasToldStay() {
        CellKeys k = Sentences.everything();
        k.jail(0);
        S.is("rows", k.count(6), 5);
        S.is("texts", k.count(7), 3);
        S.is("asked()", k.asked(), -7);
        S.is("upper()", k.upper(), 1);
        S.is("lower()", k.lower(), 2);
        S.is("finding()", k.finding(), Sentences.SIZE);
        S.row(k, 0, 3, -7);
    }

    static void p11TheTextDoesNoMoreBehind() {
        CellKeys k = S.jail("n3 kAC");
        k.put(3, 1, '8');
        k.text(3, 0);
        S.is("count(0)", k.count(0), 3);
        S.door(k, 0, 0, 2, N, 0);
    }

    static void p11AFaultIsState() {
        S.refused(STATE, "jail(1)", o -> o.jail(1));
        S.refused(STATE, "jail(2)", o -> o.jail(2));
    }

    static void p11AFaultBehindGoodItemsChangesNoDoor() {
        CellKeys k = Sentences.everything();
        Due.write(k, 2, "n3 iB qAB sCA1 ?");
        S.quiet(k, "jail(2)", STATE, o -> o.jail(2));
        Due.write(k, 2, "n8 iB qAB bCAB sAB0 iH k");
        S.quiet(k, "jail(2)", STATE, o -> o.jail(2));
        k.bell();
        S.is("can(0)", k.can(0), 0);
        S.is("can(2)", k.can(2), 3);
    }

    static void p11Nothing() {
        S.found(NOTHING, "jail(3)", o -> o.jail(3));
    }

    static void p11Bad() {
        S.badOutside("jail", 0, 3, t -> o -> o.jail(t));
    }

    // ---- 12 door

    static void p12ItsKind() {
        CellKeys k = S.jail("n6 tBAC iC lDA0 sEA0 bFAB");
        for (int x = 0; x < KINDS_OF_DOORS; x++) {
            S.tells(k, "door(" + x + ", 0)", k.door(x, 0), 1, x);
        }
    }

    static void p12WhoKeepsItNoneInside() {
        CellKeys k = S.jail("n8 tBAC iC lDA0 sEH0 bFGB");
        S.keepers(k, 1, 0, N, 0, 7, 6, 7, 0);
    }

    static void p12WhoKeepsTheOtherOneNoneIfNotTwo() {
        CellKeys k = S.jail("n8 tBHA iC lDA0 sEH0 bFGA");
        int[] dues = {N, 0, N, N, N, 0, N, N};
        for (int x = 0; x < 8; x++) {
            S.tells(k, "door(" + x + ", 2)", k.door(x, 2), 1, dues[x]);
        }
    }

    static void p12ItsFElseNought() {
        CellKeys k = S.jail("n8 tBHA iC lDA9 sEH1 bFGA lGA0 sHA9");
        int[] dues = {0, 0, 0, 9, 1, 0, 0, 9};
        for (int x = 0; x < 8; x++) {
            S.tells(k, "door(" + x + ", 3)", k.door(x, 3), 1, dues[x]);
        }
    }

    static void p12Bad() {
        S.badOutside("door's cell", 0, 7, x -> o -> o.door(x, 0));
        S.badOutside("door's what", 0, 3, what -> o -> o.door(0, what));
    }

    static void p12BadOfCellsThatAreNone() {
        S.quiet(new CellKeys(), "door(0, 0), no cells", BAD, o -> o.door(0, 0));
        S.quiet(S.jail("n2"), "door(2, 0), two cells", BAD, o -> o.door(2, 0));
    }

    // ---- 13 mark

    static void p13TwoTheLesserKeeper() {
        CellKeys k = S.jail("n8 tABH tBHA bCHG bDAB");
        S.quiet(k, "mark(0, 1)", 1, o -> o.mark(0, 1));
        S.is("mark(1, 1)", k.mark(1, 1), 0);
        S.is("mark(2, 1), BLIND", k.mark(2, 1), 6);
        S.is("mark(3, 1), BLIND", k.mark(3, 1), 0);
    }

    static void p13InsideHowManyKeysItsCellKeeps() {
        S.is("none", S.jail("n2 iA iB").mark(0, 2), 0);
        S.is("one", S.jail("n2 iA").mark(0, 2), 1);
        CellKeys k = S.jail("n8 tABC bBCA iC kDC lEC1 sFC0 tGHC kHC");
        S.quiet(k, "first and other ones", 7, o -> o.mark(2, 2));
        k = S.jail("n8 kAH kBH kCH kDH kEH kFH kGH iH");
        S.is("all seven", k.mark(7, 2), 7);
    }

    static void p13LateItsF() {
        CellKeys k = S.jail("n4 lAB0 lBC9 sCD0 sDA9");
        S.quiet(k, "mark(0, 3)", 0, o -> o.mark(0, 3));
        S.is("mark(1, 3)", k.mark(1, 3), 9);
        S.is("mark(2, 3), SPRUNG", k.mark(2, 3), 0);
        S.is("mark(3, 3), SPRUNG", k.mark(3, 3), 9);
    }

    static void p13SprungItsKeeper() {
        CellKeys k = S.jail("n8 sAH5 sHA5");
        S.quiet(k, "mark(0, 4)", 7, o -> o.mark(0, 4));
        S.is("mark(7, 4)", k.mark(7, 4), 0);
    }

    static void p13BlindHowFarItsKeepersAreApart() {
        CellKeys k = S.jail("n8 bABH bBHA bCDE bDCA");
        S.quiet(k, "mark(0, 5)", 6, o -> o.mark(0, 5));
        S.is("mark(1, 5)", k.mark(1, 5), 7);
        S.is("mark(2, 5)", k.mark(2, 5), 1);
        S.is("mark(3, 5)", k.mark(3, 5), 2);
    }

    static void p13UnlikeOfAnotherKind() {
        String[] items = {"kAB", "tABC", "iA", "lAC3", "sAB4", "bACB"};
        String[] are = {"", "1", "2", "3", "34", "15"};
        for (int is = 0; is < KINDS_OF_DOORS; is++) {
            for (int kind = 1; kind < KINDS_OF_DOORS; kind++) {
                CellKeys k = S.jail("n3 " + items[is]);
                int asked = kind;
                if (are[is].indexOf('0' + kind) < 0) {
                    S.found(k, UNLIKE, items[is] + ": mark(0, " + kind + ")", o -> o.mark(0, asked));
                } else {
                    S.is(items[is] + ": mark(0, " + kind + ") is one", k.mark(0, kind) >= 0 ? 1 : 0, 1);
                }
            }
        }
    }

    static void p13KindNoughtIsBad() {
        for (int x = 0; x < 8; x++) {
            int cell = x;
            S.bad("mark(" + x + ", 0)", o -> o.mark(cell, 0));
        }
    }

    static void p13Bad() {
        S.badOutside("mark's cell", 0, 7, x -> o -> o.mark(x, 1));
        S.badOutside("mark's kind", 1, 5, kind -> o -> o.mark(0, kind));
        S.badOutside("mark's kind, of a DOOR", 1, 5, kind -> o -> o.mark(1, kind));
        S.quiet(new CellKeys(), "mark(0, 1), no cells", BAD, o -> o.mark(0, 1));
    }

    // ---- 14 key

    static void p14AnswersWhoKeptIt() {
        CellKeys k = S.jail("n8 lBA3 sCA4");
        S.is("key(0, 7)", k.key(0, 7), 1);
        S.is("key(0, 7) again", k.key(0, 7), 7);
        S.is("key(7, 6)", k.key(7, 6), 0);
        S.is("key(1, 2), LATE", k.key(1, 2), 0);
        S.is("key(2, 3), SPRUNG", k.key(2, 3), 0);
        S.door(k, 0, 0, 7, N, 0);
        S.door(k, 7, 0, 6, N, 0);
        S.door(k, 1, 3, 2, N, 3);
        S.door(k, 2, 4, 3, N, 4);
    }

    static void p14OfTwoTheFirstOne() {
        CellKeys k = S.jail("n4 tABC bBCD");
        S.is("key(0, 3)", k.key(0, 3), 1);
        S.door(k, 0, 1, 3, 2, 0);
        S.is("key(1, 0), BLIND", k.key(1, 0), 2);
        S.door(k, 1, 5, 0, 3, 0);
    }

    static void p14AlikeIsBad() {
        for (int x = 0; x < 8; x++) {
            int cell = x;
            S.bad("key(" + x + ", " + x + ")", o -> o.key(cell, cell));
        }
    }

    static void p14Bad() {
        S.badOutside("key's door", 0, 7, x -> o -> o.key(x, 1));
        S.badOutside("key's keeper", 0, 7, y -> o -> o.key(1, y));
        S.badOutside("key's keeper, INSIDE", 0, 7, y -> o -> o.key(0, y));
        S.quiet(new CellKeys(), "key(0, 1), no cells", BAD, o -> o.key(0, 1));
        S.quiet(S.jail("n2"), "key(0, 2), two cells", BAD, o -> o.key(0, 2));
    }

    static void p14InsideIsUnlike() {
        S.found(UNLIKE, "key(0, 1)", o -> o.key(0, 1));
        S.found(UNLIKE, "key(0, 7)", o -> o.key(0, 7));
    }

    static void p14KeepsTheOtherOneIsUnlike() {
        S.found(UNLIKE, "key(2, 1), TWO", o -> o.key(2, 1));
        S.found(UNLIKE, "key(5, 1), BLIND", o -> o.key(5, 1));
        S.quiet(Sentences.everything(), "key(2, 0), its keeper", 0, o -> o.key(2, 0));
    }

    static void p14TheEveningStays() {
        CellKeys k = Sentences.everything();
        k.key(1, 7);
        S.tells(k, "out()", k.out(), 19, 2);
    }

    // ---- 15 quarrel

    static void p15AnswersWhatItWas() {
        CellKeys k = S.jail("n8");
        S.is("quarrel(0, 7, 0)", k.quarrel(0, 7, 0), 0);
        S.is("quarrel(0, 7, 1)", k.quarrel(0, 7, 1), 0);
        S.is("quarrel(0, 7, 1) again", k.quarrel(0, 7, 1), 1);
        S.is("quarrel(7, 0, 0)", k.quarrel(7, 0, 0), 1);
        S.is("quarrel(0, 7, 0)", k.quarrel(0, 7, 0), 0);
    }

    static void p15AnswersOfThoseTwoOnly() {
        CellKeys k = S.jail("n8 qAC qAH qCH");
        S.is("quarrel(0, 1, 1)", k.quarrel(0, 1, 1), 0);
        S.is("quarrel(0, 2, 1)", k.quarrel(0, 2, 1), 1);
        S.is("quarrel(0, 3, 0)", k.quarrel(0, 3, 0), 0);
        S.is("quarrel(7, 2, 1)", k.quarrel(7, 2, 1), 1);
        S.is("quarrel(7, 1, 0)", k.quarrel(7, 1, 0), 0);
    }

    static void p15TheTwoQuarrel() {
        CellKeys k = S.jail("n8 qBC");
        k.quarrel(7, 0, 1);
        k.quarrel(1, 7, 1);
        S.is("foes(0)", k.foes(0), 128);
        S.is("foes(1)", k.foes(1), 132);
        S.is("foes(7)", k.foes(7), 3);
        k.quarrel(7, 1, 0);
        S.is("foes(7)", k.foes(7), 1);
        S.is("foes(1)", k.foes(1), 4);
        S.is("count(4)", k.count(4), 2);
    }

    static void p15AlikeIsBad() {
        for (int x = 0; x < 8; x++) {
            int cell = x;
            S.bad("quarrel(" + x + ", " + x + ", 1)", o -> o.quarrel(cell, cell, 1));
        }
        S.bad("quarrel(3, 3, 0)", o -> o.quarrel(3, 3, 0));
    }

    static void p15Bad() {
        S.badOutside("quarrel's one", 0, 7, x -> o -> o.quarrel(x, 1, 1));
        S.badOutside("quarrel's other", 0, 7, y -> o -> o.quarrel(1, y, 1));
        S.badOutside("quarrel's is", 0, 1, is -> o -> o.quarrel(1, 2, is));
        S.quiet(new CellKeys(), "quarrel(0, 1, 1), no cells", BAD, o -> o.quarrel(0, 1, 1));
        S.quiet(S.jail("n2"), "quarrel(0, 2, 1), two cells", BAD, o -> o.quarrel(0, 2, 1));
    }

    // ---- 16 foes

    static void p16NoneAndAll() {
        S.quiet(S.jail("n2"), "foes(0), none", 0, o -> o.foes(0));
        S.quiet(S.jail("n2 qAB"), "foes(1), of two", 1, o -> o.foes(1));
        CellKeys k = S.jail("n8 qAB qAC qAD qAE qAF qAG qAH");
        S.quiet(k, "foes(0), all", 254, o -> o.foes(0));
        S.is("foes(7)", k.foes(7), 1);
    }

    static void p16Bad() {
        S.badOutside("foes", 0, 7, x -> o -> o.foes(x));
        S.quiet(new CellKeys(), "foes(0), no cells", BAD, o -> o.foes(0));
        S.quiet(S.jail("n2"), "foes(2), two cells", BAD, o -> o.foes(2));
    }
}
