/** What the document says ahead of the promises: what an object is used for, and Terms that many calls share. */
final class AheadTest {
    private static final int BAD = Sentences.BAD, FULL = Sentences.FULL, STATE = Sentences.STATE,
            SPENT = Sentences.SPENT, N = Sentences.NONE;
    private static final int NOTHING = Sentences.NOTHING, BEYOND = Sentences.BEYOND, UNLIKE = Sentences.UNLIKE,
            NOUGHT = Sentences.NOUGHT, SIZE = Sentences.SIZE;
    private static final int MIN = Sentences.MIN, MAX = Sentences.MAX;
    private static final int CALLS = 512;
    private static final Sentences S = new Sentences();

    public static void main(String[] args) throws Exception {
        S.run(AheadTest.class);
    }

    // ---- what it is

    static void p00AnObjectIsUsedForAsManyCalls() {
        String words = "n8 iA lBA1 lCA2 lDA3 lEA4 lFA5 lGA6 lHA7";
        CellKeys k = S.jail(words);
        int calls = 2 + words.replace(" ", "").length();
        for (int x = 0; calls < CALLS; x++, calls++) {
            S.is("without(" + x % 8 + ") as call " + (calls + 1), k.without(x % 8), 8 - x % 8);
        }
    }

    static void p00AsManyFindingsAsCalls() {
        CellKeys k = new CellKeys();
        for (int i = 1; i < CALLS; i++) {
            k.at(0, 0);
        }
        S.is("findings(1)", k.findings(NOTHING), CALLS - 1);
    }

    static void p00AsManyFavoursAsAnEveningHas() {
        CellKeys k = S.jail("n8 iA");
        int favours = 0;
        for (int x : new int[] {0, 7, 6, 5, 4, 3, 2, 1}) {
            favours += k.let(x);
        }
        S.tells(k, "out()", k.out(), 255, favours);
        S.is("favours", favours, 7);
    }

    static void p00ObjectsDoNotTouchOneAnother() {
        CellKeys one = Sentences.everything();
        CellKeys other = Sentences.everything();
        S.quiet(one, "all changed in the other", 0, o -> {
            other.lay(0, 0, 9);
            other.tear(2);
            other.put(0, 0, 9);
            other.key(2, 0);
            other.quarrel(0, 1, 1);
            other.bell();
            other.keep(0);
            other.forget(0);
            other.mean(1);
            other.ways(255);
            return 0;
        });
        CellKeys anew = new CellKeys();
        S.is("digest() of a new one", anew.digest(), new CellKeys().digest());
        S.is("findings(1) of a new one", anew.findings(NOTHING), 0);
    }

    static void p00TheSameCallsGiveTheSameAnswers() {
        S.is("digest()", Sentences.everything().digest(), Sentences.everything().digest());
    }

    // ---- what is refused: the first that fits

    static void p00BadIsAheadOfAllElse() {
        CellKeys full = S.jail("n8", 0);
        for (int i = 0; i < 8; i++) {
            full.saw(0, 1);
        }
        S.quiet(full, "saw(8, 1), full", BAD, o -> o.saw(8, 1));
        S.quiet(full, "deals(6, 0), eight cells", BAD, o -> o.deals(6, 0));
        S.quiet(full, "deals(1, 6), eight cells", BAD, o -> o.deals(1, 6));
        S.quiet(full, "row(6, -1)", BAD, o -> o.row(6, -1));
        S.quiet(full, "text(4, -1)", BAD, o -> o.text(4, -1));
        S.quiet(full, "copy(0, 0, 6, 0, -1)", BAD, o -> o.copy(0, 0, 6, 0, -1));
        S.quiet(full, "copy(6, 0, 0, 0, -1)", BAD, o -> o.copy(6, 0, 0, 0, -1));
        S.quiet(full, "mark(0, 6)", BAD, o -> o.mark(0, 6));
        S.quiet(full, "order(256, 0)", BAD, o -> o.order(256, 0));
        S.quiet(full, "odds(100, 0)", BAD, o -> o.odds(100, 0));
    }

    static void p00EachWordWhereItFits() {
        CellKeys k = S.jail("n8", 0);
        for (int i = 0; i < 8; i++) {
            k.saw(0, i % 2);
        }
        S.quiet(k, "saw(0, 1)", FULL, o -> o.saw(0, 1));
        S.quiet(k, "can(0)", STATE, o -> o.can(0));
        S.quiet(k, "let(0)", STATE, o -> o.let(0));
        S.quiet(k, "deals(5, 0)", SPENT, o -> o.deals(5, 0));
        S.quiet(k, "culprits(99)", N, o -> o.culprits(99));
        S.found(k, NOUGHT, "odds(99, 0)", o -> o.odds(99, 0));
        S.found(k, NOTHING, "on(0)", o -> o.on(0));
        S.found(k, UNLIKE, "mark(0, 1)", o -> o.mark(0, 1));
        S.found(k, SIZE, "row(0, -1)", o -> o.row(0, -1));
        S.found(k, BEYOND, "put(3, 100, 0)", o -> o.put(3, 100, 0));
    }

    static void p00OfFindingsTheOneToldFirst() {
        CellKeys k = S.jail("n2");
        Due.fill(k, 0, 5, 5, 5);
        k.row(1, 0);
        S.found(k, SIZE, "copy(5, 9, 4, 9, -1)", o -> o.copy(5, 9, 4, 9, -1));
        S.found(k, NOTHING, "copy(0, 9, 4, 0, 1)", o -> o.copy(0, 9, 4, 0, 1));
        S.found(k, SIZE, "lets(0), of three that are none", o -> o.lets(0));
        S.found(k, SIZE, "dealt(0), of three that are none", o -> o.dealt(0));
        S.found(k, NOTHING, "mean(2)", o -> o.mean(2));
        S.found(k, NOUGHT, "mean(1)", o -> o.mean(1));
        S.found(k, NOTHING, "jail(0)", o -> o.jail(0));
    }

    static void p00NumbersThatAreNoneInEachCall() {
        for (int v : new int[] {-1, MIN, MAX, 1 << 8, 1 << 16, 1 << 24, -256}) {
            S.bad("all that take a row, " + v, o -> all(BAD, o.row(v, 0), o.lay(v, 0, 0), o.at(v, 0), o.tear(v),
                    o.copy(v, 0, 0, 0, 0), o.copy(0, 0, v, 0, 0), o.mean(v), o.lets(v), o.order(0, v),
                    o.deals(1, v), o.dealt(v)));
            S.bad("all that take a text, " + v, o -> all(BAD, o.text(v, 0), o.put(v, 0, 0), o.fault(v), o.jail(v)));
            S.bad("all that take a cell, " + v, o -> all(BAD, o.door(v, 0), o.mark(v, 2), o.key(v, 1), o.key(1, v),
                    o.quarrel(v, 1, 1), o.quarrel(1, v, 1), o.foes(v), o.can(v), o.let(v), o.ring(v), o.ill(v),
                    o.without(v), o.saw(v, 1), o.odds(99, v)));
            S.bad("all that take a set, " + v, o -> all(BAD, o.least(v), o.order(v, 0), o.ways(v), o.band(v)));
            S.bad("all else, " + v, o -> all(BAD, o.door(0, v), o.mark(0, v), o.quarrel(0, 1, v), o.keep(v), o.on(v),
                    o.bands(v), o.deals(v, 0), o.saw(0, v), o.forget(v), o.culprits(v), o.odds(v, 0), o.count(v),
                    o.findings(v)));
        }
    }

    /** The due answer, if all are so; else one that is none. */
    private static long all(int due, int... answers) {
        for (int answer : answers) {
            if (answer != due) {
                return answer;
            }
        }
        return due;
    }

    // ---- what many calls share

    static void p00SetsAreToldByBits() {
        CellKeys k = S.jail("n8 iA iH qAH qAB", 0, 7);
        S.tells(k, "out()", k.out(), 129, 0);
        S.is("foes(0)", k.foes(0), 130);
        S.is("foes(7)", k.foes(7), 1);
        S.tells(k, "least(128)", k.least(128), 0, 128);
    }

    static void p00TheBellAndAFreshJailLeaveWhatIsTold() {
        CellKeys k = Sentences.everything();
        long[] before = {k.asked(), k.upper(), k.lower(), k.finding(), k.findings(SIZE)};
        k.bell();
        k.jail(0);
        long[] after = {k.asked(), k.upper(), k.lower(), k.finding(), k.findings(SIZE)};
        for (int i = 0; i < before.length; i++) {
            S.is("what is told, " + i, after[i], before[i]);
        }
    }

    static void p00BandsAndSetsReachedDoNotLookAtTheEvening() {
        CellKeys in = S.jail("n4 iA lBA1 sCB2 qAD");
        CellKeys gone = S.jail("n4 iA lBA1 sCB2 qAD", 0, 1);
        for (int set = 1; set < 16; set++) {
            S.is("least(" + set + ")", gone.least(set), in.least(set));
            S.is("ways(" + set + ")", gone.ways(set), in.ways(set));
            S.is("band(" + set + ")", gone.band(set), in.band(set));
        }
    }
}
