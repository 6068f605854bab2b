/** Promises 1 to 9, sentence by sentence: a new object, rows, texts. */
final class Promise01To09Test {
    private static final int BAD = Sentences.BAD, MIN = Sentences.MIN, MAX = Sentences.MAX;
    private static final int NOTHING = Sentences.NOTHING, BEYOND = Sentences.BEYOND, NOUGHT = Sentences.NOUGHT,
            SIZE = Sentences.SIZE;
    private static final Sentences S = new Sentences();

    public static void main(String[] args) throws Exception {
        S.run(Promise01To09Test.class);
    }

    // ---- 1 a new object

    static void p01NoRows() {
        CellKeys k = new CellKeys();
        S.is("count(6)", k.count(6), 0);
        for (int r = 0; r <= 5; r++) {
            int row = r;
            S.found(k, NOTHING, "at(" + r + ", 0)", o -> o.at(row, 0));
            S.found(k, NOTHING, "tear(" + r + ")", o -> o.tear(row));
        }
    }

    static void p01NoTexts() {
        CellKeys k = new CellKeys();
        S.is("count(7)", k.count(7), 0);
        for (int t = 0; t <= 3; t++) {
            int text = t;
            S.found(k, NOTHING, "fault(" + t + ")", o -> o.fault(text));
            S.found(k, NOTHING, "put(" + t + ", 0, 1)", o -> o.put(text, 0, 1));
        }
    }

    static void p01NoCells() {
        CellKeys k = new CellKeys();
        S.is("count(0)", k.count(0), 0);
        S.quiet(k, "door(0, 0)", BAD, o -> o.door(0, 0));
        S.quiet(k, "foes(0)", BAD, o -> o.foes(0));
        S.quiet(k, "can(0)", BAD, o -> o.can(0));
        S.quiet(k, "least(1)", BAD, o -> o.least(1));
    }

    static void p01NobodyOutNothingSeenNothingKept() {
        CellKeys k = new CellKeys();
        S.tells(k, "out()", k.out(), 0, 0);
        S.is("count(1)", k.count(1), 0);
        S.is("count(5)", k.count(5), 0);
        for (int place = 0; place <= 2; place++) {
            int kept = place;
            S.found(k, NOTHING, "on(" + place + ")", o -> o.on(kept));
        }
    }

    // ---- 2 row

    static void p02AnswersHowMany() {
        CellKeys k = new CellKeys();
        S.is("row(0, 0)", k.row(0, 0), 0);
        S.is("row(1, 1)", k.row(1, 1), 1);
        S.is("row(2, 59)", k.row(2, 59), 59);
        S.is("row(3, 60)", k.row(3, 60), 60);
        S.is("count(6)", k.count(6), 4);
    }

    static void p02PlacesAreNought() {
        CellKeys k = new CellKeys();
        k.row(0, 60);
        S.row(k, 0, new int[60]);
    }

    static void p02AnewNothingIsLeft() {
        CellKeys k = new CellKeys();
        Due.fill(k, 0, 1, 2, 3, 4);
        k.row(0, 2);
        S.row(k, 0, 0, 0);
        k.row(0, 4);
        S.row(k, 0, 0, 0, 0, 0);
    }

    static void p02OneOfNoPlacesIsThere() {
        CellKeys k = new CellKeys();
        k.row(4, 0);
        S.is("count(6)", k.count(6), 1);
        S.row(k, 4);
    }

    static void p02RowsNoughtToFive() {
        CellKeys k = new CellKeys();
        for (int r = 0; r <= 5; r++) {
            S.is("row(" + r + ", 1)", k.row(r, 1), 1);
            k.lay(r, 0, r + 10);
        }
        for (int r = 0; r <= 5; r++) {
            S.row(k, r, r + 10);
        }
        S.badOutside("row", 0, 5, r -> o -> o.row(r, 1));
    }

    static void p02AboveSixtyIsBad() {
        S.badAbove("row's size", 60, n -> o -> o.row(0, n));
        S.badAbove("a missing row's size", 60, n -> o -> o.row(5, n));
    }

    static void p02BelowNoneIsSize() {
        S.found(SIZE, "row(0, -1)", o -> o.row(0, -1));
        S.found(SIZE, "row(5, -1)", o -> o.row(5, -1));
        S.found(SIZE, "row(0, MIN)", o -> o.row(0, MIN));
    }

    static void p02BadIsAheadOfSize() {
        S.bad("row(6, -1)", o -> o.row(6, -1));
        S.bad("row(-1, -1)", o -> o.row(-1, -1));
    }

    // ---- 3 lay

    static void p03TellsWhatItWas() {
        CellKeys k = new CellKeys();
        k.row(0, 1);
        S.tells(k, "lay(0, 0, MAX)", k.lay(0, 0, MAX), 1, 0);
        S.tells(k, "lay(0, 0, MIN)", k.lay(0, 0, MIN), 1, MAX);
        S.tells(k, "lay(0, 0, -1)", k.lay(0, 0, -1), 1, MIN);
        S.row(k, 0, -1);
    }

    static void p03TellsOfThatRowAndPlace() {
        CellKeys k = new CellKeys();
        for (int r = 0; r <= 5; r++) {
            Due.fill(k, r, 10 * r, 10 * r + 1, 10 * r + 2, 10 * r + 3, 10 * r + 4, 10 * r + 5);
        }
        for (int r = 0; r <= 5; r++) {
            for (int i = 0; i <= 5; i++) {
                S.tells(k, "lay(" + r + ", " + i + ", -1)", k.lay(r, i, -1), 1, 10 * r + i);
            }
        }
    }

    static void p03FirstAndLastPlace() {
        CellKeys k = new CellKeys();
        k.row(5, 60);
        S.tells(k, "lay(5, 0, 8)", k.lay(5, 0, 8), 1, 0);
        S.tells(k, "lay(5, 59, 9)", k.lay(5, 59, 9), 1, 0);
        int[] places = new int[60];
        places[0] = 8;
        places[59] = 9;
        S.row(k, 5, places);
    }

    static void p03Bad() {
        S.badOutside("lay's row", 0, 5, r -> o -> o.lay(r, 0, 1));
    }

    static void p03Nothing() {
        S.found(NOTHING, "lay(5, 0, 1)", o -> o.lay(5, 0, 1));
    }

    static void p03Beyond() {
        for (int i : new int[] {-1, 2, 60, MIN, MAX}) {
            S.found(BEYOND, "lay(0, " + i + ", 1)", o -> o.lay(0, i, 1));
        }
        S.found(BEYOND, "lay(1, 0, 1), no places", o -> o.lay(1, 0, 1));
        S.found(BEYOND, "lay(2, 60, 1), sixty places", o -> o.lay(2, 60, 1));
    }

    static void p03NothingIsAheadOfBeyond() {
        S.found(NOTHING, "lay(5, -1, 1)", o -> o.lay(5, -1, 1));
        S.bad("lay(6, -1, 1)", o -> o.lay(6, -1, 1));
    }

    // ---- 4 at

    static void p04FirstAndLastPlace() {
        CellKeys k = new CellKeys();
        k.row(5, 60);
        k.lay(5, 0, MIN);
        k.lay(5, 59, MAX);
        S.tells(k, "at(5, 0)", k.at(5, 0), 1, MIN);
        S.tells(k, "at(5, 59)", k.at(5, 59), 1, MAX);
        S.tells(k, "at(5, 1)", k.at(5, 1), 1, 0);
        S.tells(k, "at(5, 0) again", k.at(5, 0), 1, MIN);
    }

    static void p04Bad() {
        S.badOutside("at's row", 0, 5, r -> o -> o.at(r, 0));
    }

    static void p04Nothing() {
        S.found(NOTHING, "at(5, 0)", o -> o.at(5, 0));
    }

    static void p04Beyond() {
        for (int i : new int[] {-1, 2, 60, MIN, MAX}) {
            S.found(BEYOND, "at(0, " + i + ")", o -> o.at(0, i));
        }
        S.found(BEYOND, "at(1, 0), no places", o -> o.at(1, 0));
        S.found(BEYOND, "at(2, 60), sixty places", o -> o.at(2, 60));
    }

    static void p04NothingIsAheadOfBeyond() {
        S.found(NOTHING, "at(5, -1)", o -> o.at(5, -1));
        S.bad("at(-1, -1)", o -> o.at(-1, -1));
    }

    // ---- 5 tear

    static void p05OneRowIsMissing() {
        CellKeys k = new CellKeys();
        for (int r = 0; r <= 5; r++) {
            Due.fill(k, r, r);
        }
        S.is("tear(0)", k.tear(0), 1);
        S.is("tear(5)", k.tear(5), 1);
        S.is("count(6)", k.count(6), 4);
        S.found(k, NOTHING, "at(0, 0)", o -> o.at(0, 0));
        S.found(k, NOTHING, "at(5, 0)", o -> o.at(5, 0));
        S.row(k, 1, 1);
        S.row(k, 4, 4);
    }

    static void p05OneOfNoPlacesAndOneOfSixty() {
        CellKeys k = new CellKeys();
        k.row(1, 0);
        k.row(2, 60);
        S.is("tear(1)", k.tear(1), 1);
        S.is("tear(2)", k.tear(2), 1);
        S.is("count(6)", k.count(6), 0);
    }

    static void p05Bad() {
        S.badOutside("tear", 0, 5, r -> o -> o.tear(r));
    }

    static void p05Nothing() {
        S.found(NOTHING, "tear(5)", o -> o.tear(5));
        CellKeys k = Sentences.everything();
        k.tear(0);
        S.found(k, NOTHING, "tear(0) again", o -> o.tear(0));
    }

    // ---- 6 copy

    private static CellKeys twoRows() {
        CellKeys k = new CellKeys();
        Due.fill(k, 0, 1, 2, 3, 4);
        Due.fill(k, 5, 11, 12, 13);
        return k;
    }

    static void p06ToAnotherOne() {
        CellKeys k = twoRows();
        S.is("copy(0, 2, 5, 1, 2)", k.copy(0, 2, 5, 1, 2), 1);
        S.row(k, 0, 1, 2, 3, 4);
        S.row(k, 5, 11, 3, 4);
        S.is("copy(5, 0, 0, 0, 1)", k.copy(5, 0, 0, 0, 1), 1);
        S.row(k, 0, 11, 2, 3, 4);
    }

    static void p06ToItselfAsIfTakenAhead() {
        CellKeys k = twoRows();
        S.is("copy(0, 0, 0, 1, 3)", k.copy(0, 0, 0, 1, 3), 1);
        S.row(k, 0, 1, 1, 2, 3);
        k = twoRows();
        S.is("copy(0, 1, 0, 0, 3)", k.copy(0, 1, 0, 0, 3), 1);
        S.row(k, 0, 2, 3, 4, 4);
        S.is("copy(0, 0, 0, 0, 4)", k.copy(0, 0, 0, 0, 4), 1);
        S.row(k, 0, 2, 3, 4, 4);
    }

    static void p06AllSixty() {
        CellKeys k = new CellKeys();
        k.row(0, 60);
        k.row(1, 60);
        k.lay(0, 0, 5);
        k.lay(0, 59, 6);
        S.is("copy(0, 0, 1, 0, 60)", k.copy(0, 0, 1, 0, 60), 1);
        int[] places = new int[60];
        places[0] = 5;
        places[59] = 6;
        S.row(k, 1, places);
        S.found(k, BEYOND, "copy(0, 0, 1, 0, 61)", o -> o.copy(0, 0, 1, 0, 61));
    }

    static void p06NoneAtTheEnds() {
        S.quiet(Sentences.everything(), "copy(0, 2, 4, 0, 0)", 1, o -> o.copy(0, 2, 4, 0, 0));
        S.quiet(Sentences.everything(), "copy(0, 0, 4, 2, 0)", 1, o -> o.copy(0, 0, 4, 2, 0));
        S.quiet(Sentences.everything(), "copy(1, 0, 1, 0, 0)", 1, o -> o.copy(1, 0, 1, 0, 0));
        S.quiet(Sentences.everything(), "copy(2, 60, 2, 60, 0)", 1, o -> o.copy(2, 60, 2, 60, 0));
    }

    static void p06Bad() {
        S.badOutside("copy's row", 0, 5, r -> o -> o.copy(r, 0, 0, 0, 1));
        S.badOutside("copy's other row", 0, 5, r -> o -> o.copy(0, 0, r, 0, 1));
    }

    static void p06BelowNoneIsSize() {
        S.found(SIZE, "copy(0, 0, 4, 0, -1)", o -> o.copy(0, 0, 4, 0, -1));
        S.found(SIZE, "copy(0, 0, 4, 0, MIN)", o -> o.copy(0, 0, 4, 0, MIN));
    }

    static void p06NothingIsEither() {
        S.found(NOTHING, "copy(5, 0, 0, 0, 1)", o -> o.copy(5, 0, 0, 0, 1));
        S.found(NOTHING, "copy(0, 0, 5, 0, 1)", o -> o.copy(0, 0, 5, 0, 1));
        S.found(NOTHING, "copy(5, 0, 5, 0, 0)", o -> o.copy(5, 0, 5, 0, 0));
    }

    static void p06BeyondNotSoManyThere() {
        S.found(BEYOND, "copy(0, 0, 3, 0, 3)", o -> o.copy(0, 0, 3, 0, 3));
        S.found(BEYOND, "copy(0, 1, 3, 0, 2)", o -> o.copy(0, 1, 3, 0, 2));
        S.found(BEYOND, "copy(0, 2, 3, 0, 1)", o -> o.copy(0, 2, 3, 0, 1));
        S.found(BEYOND, "copy(0, -1, 3, 0, 1)", o -> o.copy(0, -1, 3, 0, 1));
        S.found(BEYOND, "copy(1, 0, 3, 0, 1)", o -> o.copy(1, 0, 3, 0, 1));
        S.found(BEYOND, "copy(0, 1, 3, 0, MAX)", o -> o.copy(0, 1, 3, 0, MAX));
        S.found(BEYOND, "copy(0, MAX, 3, 0, 1)", o -> o.copy(0, MAX, 3, 0, 1));
        S.found(BEYOND, "copy(0, MIN, 3, 0, 1)", o -> o.copy(0, MIN, 3, 0, 1));
        S.found(BEYOND, "copy(0, MAX, 3, 0, MAX)", o -> o.copy(0, MAX, 3, 0, MAX));
    }

    static void p06BeyondNotSoManyInTheOtherOne() {
        S.found(BEYOND, "copy(3, 0, 0, 0, 3)", o -> o.copy(3, 0, 0, 0, 3));
        S.found(BEYOND, "copy(3, 0, 0, 1, 2)", o -> o.copy(3, 0, 0, 1, 2));
        S.found(BEYOND, "copy(3, 0, 0, 2, 1)", o -> o.copy(3, 0, 0, 2, 1));
        S.found(BEYOND, "copy(3, 0, 0, -1, 1)", o -> o.copy(3, 0, 0, -1, 1));
        S.found(BEYOND, "copy(3, 0, 1, 0, 1)", o -> o.copy(3, 0, 1, 0, 1));
        S.found(BEYOND, "copy(3, 0, 0, MAX, 1)", o -> o.copy(3, 0, 0, MAX, 1));
        S.found(BEYOND, "copy(3, 0, 0, MIN, 1)", o -> o.copy(3, 0, 0, MIN, 1));
    }

    static void p06BeyondWithNone() {
        S.found(BEYOND, "copy(0, -1, 4, 0, 0)", o -> o.copy(0, -1, 4, 0, 0));
        S.found(BEYOND, "copy(0, 3, 4, 0, 0)", o -> o.copy(0, 3, 4, 0, 0));
        S.found(BEYOND, "copy(0, 0, 4, -1, 0)", o -> o.copy(0, 0, 4, -1, 0));
        S.found(BEYOND, "copy(0, 0, 4, 3, 0)", o -> o.copy(0, 0, 4, 3, 0));
        S.found(BEYOND, "copy(1, 1, 4, 0, 0)", o -> o.copy(1, 1, 4, 0, 0));
        S.found(BEYOND, "copy(0, 0, 1, 1, 0)", o -> o.copy(0, 0, 1, 1, 0));
        S.found(BEYOND, "copy(0, MIN, 4, 0, 0)", o -> o.copy(0, MIN, 4, 0, 0));
        S.found(BEYOND, "copy(0, 0, 4, MAX, 0)", o -> o.copy(0, 0, 4, MAX, 0));
    }

    static void p06InThisOrder() {
        S.bad("copy(6, -1, 5, -1, -1)", o -> o.copy(6, -1, 5, -1, -1));
        S.bad("copy(5, -1, 6, -1, -1)", o -> o.copy(5, -1, 6, -1, -1));
        S.found(SIZE, "copy(5, -1, 0, -1, -1)", o -> o.copy(5, -1, 0, -1, -1));
        S.found(SIZE, "copy(0, -1, 5, -1, -1)", o -> o.copy(0, -1, 5, -1, -1));
        S.found(NOTHING, "copy(5, -1, 0, -1, 99)", o -> o.copy(5, -1, 0, -1, 99));
        S.found(NOTHING, "copy(0, -1, 5, -1, 99)", o -> o.copy(0, -1, 5, -1, 99));
    }

    // ---- 7 mean

    private static void mean(int due, int... places) {
        CellKeys k = new CellKeys();
        Due.fill(k, 0, places);
        S.tells(k, "mean of " + places.length + " from " + places[0], k.mean(0), 1, due);
    }

    static void p07IsCut() {
        mean(1, 1, 2);
        mean(1, 1, 1, 3);
        mean(0, 0, 0, 2);
        mean(-1, -1, -2);
        mean(-1, -1, -1, -3);
        mean(0, 0, 0, -2);
    }

    static void p07OfOneAndOfSixty() {
        mean(-9, -9);
        int[] sixty = new int[60];
        sixty[0] = 59;
        sixty[59] = 60;
        mean(1, sixty);
    }

    static void p07NothingWrapsAround() {
        mean(MAX, MAX, MAX, MAX);
        mean(MIN, MIN, MIN, MIN);
        mean(0, MIN, MAX);
        int[] sixty = new int[60];
        java.util.Arrays.fill(sixty, MAX);
        mean(MAX, sixty);
    }

    static void p07Bad() {
        S.badOutside("mean", 0, 5, r -> o -> o.mean(r));
    }

    static void p07Nothing() {
        S.found(NOTHING, "mean(5)", o -> o.mean(5));
    }

    static void p07OfNonePlacesIsNought() {
        S.found(NOUGHT, "mean(1)", o -> o.mean(1));
        CellKeys k = new CellKeys();
        k.row(5, 0);
        S.found(k, NOUGHT, "mean(5)", o -> o.mean(5));
    }

    // ---- 8 text

    static void p08AnswersHowMany() {
        CellKeys k = new CellKeys();
        S.is("text(0, 0)", k.text(0, 0), 0);
        S.is("text(1, 1)", k.text(1, 1), 1);
        S.is("text(2, 100)", k.text(2, 100), 100);
        S.is("count(7)", k.count(7), 3);
    }

    static void p08Blanks() {
        CellKeys k = new CellKeys();
        k.text(0, 100);
        for (int i = 0; i < 100; i++) {
            S.is("put(0, " + i + ", 65)", k.put(0, i, 65), 1032);
        }
        k.text(0, 2);
        S.is("anew: put(0, 0, 66)", k.put(0, 0, 66), 1032);
        k.text(0, 100);
        S.is("anew: put(0, 0, 66)", k.put(0, 0, 66), 1032);
        S.is("anew: put(0, 99, 66)", k.put(0, 99, 66), 1032);
    }

    static void p08TextsNoughtToThree() {
        CellKeys k = new CellKeys();
        for (int t = 0; t <= 3; t++) {
            S.is("text(" + t + ", 1)", k.text(t, 1), 1);
            k.put(t, 0, t);
        }
        for (int t = 0; t <= 3; t++) {
            S.is("put(" + t + ", 0, 0)", k.put(t, 0, 0), 1000 + t);
        }
        S.badOutside("text", 0, 3, t -> o -> o.text(t, 1));
    }

    static void p08AboveAHundredIsBad() {
        S.badAbove("text's size", 100, n -> o -> o.text(0, n));
        S.badAbove("a missing text's size", 100, n -> o -> o.text(3, n));
    }

    static void p08BelowNoneIsSize() {
        S.found(SIZE, "text(0, -1)", o -> o.text(0, -1));
        S.found(SIZE, "text(3, -1)", o -> o.text(3, -1));
        S.found(SIZE, "text(0, MIN)", o -> o.text(0, MIN));
    }

    static void p08BadIsAheadOfSize() {
        S.bad("text(4, -1)", o -> o.text(4, -1));
        S.bad("text(-1, -1)", o -> o.text(-1, -1));
    }

    // ---- 9 put

    private static void cut(int v, int due) {
        CellKeys k = new CellKeys();
        k.text(0, 1);
        S.is("put(0, 0, " + v + ")", k.put(0, 0, v), 1032);
        S.is("what " + v + " was cut to", k.put(0, 0, 0), 1000 + due);
    }

    static void p09CutToAByte() {
        cut(127, 127);
        cut(128, -128);
        cut(-128, -128);
        cut(-129, 127);
        cut(0, 0);
        cut(255, -1);
        cut(256, 0);
        cut(-256, 0);
        cut(-1, -1);
        cut(MAX, -1);
        cut(MIN, 0);
    }

    static void p09FirstAndLastPlace() {
        CellKeys k = new CellKeys();
        k.text(3, 100);
        S.is("put(3, 0, 1)", k.put(3, 0, 1), 1032);
        S.is("put(3, 99, 2)", k.put(3, 99, 2), 1032);
        S.is("put(3, 0, 3)", k.put(3, 0, 3), 1001);
        S.is("put(3, 99, 3)", k.put(3, 99, 3), 1002);
        S.is("put(3, 1, 3)", k.put(3, 1, 3), 1032);
    }

    static void p09Bad() {
        S.badOutside("put's text", 0, 3, t -> o -> o.put(t, 0, 1));
    }

    static void p09Nothing() {
        S.found(NOTHING, "put(3, 0, 1)", o -> o.put(3, 0, 1));
    }

    static void p09Beyond() {
        for (int i : new int[] {-1, 3, 100, MIN, MAX}) {
            S.found(BEYOND, "put(2, " + i + ", 1)", o -> o.put(2, i, 1));
        }
        S.found(BEYOND, "put(1, 0, 1), no bytes", o -> o.put(1, 0, 1));
        CellKeys k = new CellKeys();
        k.text(0, 100);
        S.found(k, BEYOND, "put(0, 100, 1), a hundred bytes", o -> o.put(0, 100, 1));
    }

    static void p09NothingIsAheadOfBeyond() {
        S.found(NOTHING, "put(3, -1, 1)", o -> o.put(3, -1, 1));
        S.bad("put(4, -1, 1)", o -> o.put(4, -1, 1));
    }
}
