/** Promises 10 to 16: faults, jails, doors, marks, keys, quarrels. */
final class JailTest {
    private static final int NOTHING = 1, UNLIKE = 3;
    private static final Due D = new Due();

    public static void main(String[] args) {
        noFaults();
        faults();
        jails();
        jailsAnew();
        doors();
        marks();
        keys();
        quarrels();
        D.end();
    }

    private static void fault(String words, int due) {
        CellKeys k = new CellKeys();
        Due.write(k, 0, words);
        D.due("fault of '" + words + "'", k.fault(0), due);
        D.due("jail of '" + words + "'", k.jail(0), due == CellKeys.NONE ? k.count(0) : CellKeys.STATE);
        D.check("cells of '" + words + "'", due == CellKeys.NONE ? k.count(0) >= 2 : k.count(0) == 0);
    }

    private static void noFaults() {
        fault("n2", CellKeys.NONE);
        fault("n8", CellKeys.NONE);
        fault("   n3   ", CellKeys.NONE);
        fault("n3iAkBCkCB", CellKeys.NONE);
        fault("n4  tABC   bDAB lBA0 sCD9", CellKeys.NONE);
        fault("n3 qAB qAB qBA", CellKeys.NONE);
        fault("n8 kHA qGH", CellKeys.NONE);
    }

    private static void faults() {
        fault("", 0);
        fault("    ", 4);
        fault("n", 1);
        fault(" n", 2);
        fault("n1", 1);
        fault("n9", 1);
        fault("n0", 1);
        fault("n ", 1);
        fault("nA", 1);
        fault("n23", 2);
        fault("n2 n2", 3);
        fault("kAB", 0);
        fault("iA n2", 0);
        fault("N2", 0);
        fault("n2 K", 3);
        fault("n2 x", 3);
        fault("n2 A", 3);
        fault("n2 k", 4);
        fault("n2 k AB", 4);
        fault("n2 kA B", 5);
        fault("n2 kA", 5);
        fault("n2 kAC", 5);
        fault("n2 kAA", 5);
        fault("n2 kaB", 4);
        fault("n2 kA@", 5);
        fault("n3 kDA", 4);
        fault("n2 i", 4);
        fault("n2 iC", 4);
        fault("n3 tAB", 6);
        fault("n3 tABA", 6);
        fault("n3 tABB", 6);
        fault("n3 tAAB", 5);
        fault("n3 bABA", 6);
        fault("n3 bABB", 6);
        fault("n3 bABD", 6);
        fault("n3 lABC", 6);
        fault("n3 lAB:", 6);
        fault("n3 lAB/", 6);
        fault("n3 lAB", 6);
        fault("n3 sAB ", 6);
        fault("n3 sAA1", 5);
        fault("n3 qAA", 5);
        fault("n3 qA", 5);
        fault("n3 qAB kAA z", 9);
        CellKeys k = new CellKeys();
        k.text(0, 3);
        k.put(0, 0, 'n');
        k.put(0, 1, '2');
        k.put(0, 2, -96);
        D.due("fault at a byte below 0", k.fault(0), 2);
        D.found(k, NOTHING, "fault of missing", 0, k.fault(1));
        D.due("fault(4)", k.fault(4), CellKeys.BAD);
        D.due("fault(-1)", k.fault(-1), CellKeys.BAD);
    }

    private static void doorIs(CellKeys k, int x, int... dues) {
        for (int what = 0; what < 4; what++) {
            D.due("door(" + x + ", " + what + ")", k.door(x, what), 1);
            D.due("door(" + x + ", " + what + ") tells", k.asked(), dues[what]);
        }
    }

    private static final int N = CellKeys.NONE;

    private static void jails() {
        CellKeys k = Due.jail("n7 kAC tBAC iC lDE9 sEF0 bFGA qAB qCA");
        doorIs(k, 0, 0, 2, N, 0);
        doorIs(k, 1, 1, 0, 2, 0);
        doorIs(k, 2, 2, N, N, 0);
        doorIs(k, 3, 3, 4, N, 9);
        doorIs(k, 4, 4, 5, N, 0);
        doorIs(k, 5, 5, 6, 0, 0);
        doorIs(k, 6, 0, 0, N, 0);
        D.due("foes(0)", k.foes(0), 6);
        D.due("foes(1)", k.foes(1), 1);
        D.due("foes(2)", k.foes(2), 1);
        D.due("foes(3)", k.foes(3), 0);
        k = Due.jail("n3 tABC lAC7 kAB bBAC iB iC sCA5 kCB");
        doorIs(k, 0, 0, 1, N, 0);
        doorIs(k, 1, 2, N, N, 0);
        doorIs(k, 2, 0, 1, N, 0);
        D.due("count(2)", k.count(2), 0);
        D.due("count(3)", k.count(3), 0);
    }

    private static void jailsAnew() {
        CellKeys k = Due.jail("n4 iA qAB sBA0");
        k.let(0);
        k.let(1);
        k.keep(0);
        k.saw(1, 1);
        Due.write(k, 1, "n3");
        Due.write(k, 2, "n4 ?");
        D.due("jail by a fault", k.jail(2), CellKeys.STATE);
        D.due("jail by a fault: cells", k.count(0), 4);
        D.due("jail by a fault: out", k.out(), 1);
        D.due("jail by a fault: seen", k.count(5), 1);
        D.due("jail by a fault: kept", k.on(0), 1);
        k.quarrel(0, 2, 1);
        D.due("let", k.let(3), 1);
        D.due("jail", k.jail(1), 3);
        D.due("cells", k.count(0), 3);
        D.due("all in", k.out(), 0);
        D.due("favours anew", k.asked(), 0);
        D.due("seen goes", k.count(5), 0);
        D.found(k, NOTHING, "kept goes", 0, k.on(0));
        D.due("quarrels go", k.count(4), 0);
        doorIs(k, 0, 0, 1, N, 0);
        doorIs(k, 1, 0, 2, N, 0);
        doorIs(k, 2, 0, 0, N, 0);
        D.due("door of none", k.door(3, 0), CellKeys.BAD);
        D.found(k, NOTHING, "jail(0)", 1, k.jail(0));
        D.due("jail(4)", k.jail(4), CellKeys.BAD);
        D.due("jail(-1)", k.jail(-1), CellKeys.BAD);
        Due.write(k, 0, "n4 bBAD");
        k.jail(0);
        Due.write(k, 0, "n3");
        k.jail(0);
        D.due("no blind one is left behind", k.can(0), 1);
    }

    private static void doors() {
        CellKeys k = Due.jail("n2");
        k.door(0, 1);
        D.due("door(-1, 0)", k.door(-1, 0), CellKeys.BAD);
        D.due("door(2, 0)", k.door(2, 0), CellKeys.BAD);
        D.due("door(0, 4)", k.door(0, 4), CellKeys.BAD);
        D.due("door(0, -1)", k.door(0, -1), CellKeys.BAD);
        D.due("asked() stays", k.asked(), 1);
    }

    private static void marks() {
        CellKeys k = Due.jail("n7 tAGB iB lCB8 sDF2 bEGB kFB kGB");
        D.due("a two's lesser", k.mark(0, 1), 1);
        D.due("an inside one's keys", k.mark(1, 2), 5);
        D.due("a late one's f", k.mark(2, 3), 8);
        D.due("a sprung one's f", k.mark(3, 3), 2);
        D.due("a sprung one's keeper", k.mark(3, 4), 5);
        D.due("a blind one's lesser", k.mark(4, 1), 1);
        D.due("a blind one's distance", k.mark(4, 5), 5);
        int before = 0;
        int[] kinds = {1, 2, 3, 4, 1, 0, 0};
        for (int x = 0; x < 7; x++) {
            for (int kind = 1; kind <= 5; kind++) {
                boolean is = kind == kinds[x] || x == 3 && kind == 3 || x == 4 && kind == 5;
                int got = k.mark(x, kind);
                if (is) {
                    D.check("mark(" + x + ", " + kind + ")", got >= 0);
                } else {
                    D.found(k, UNLIKE, "mark(" + x + ", " + kind + ")", before++, got);
                }
            }
        }
        D.due("mark(0, 0)", k.mark(0, 0), CellKeys.BAD);
        D.due("mark(5, 0)", k.mark(5, 0), CellKeys.BAD);
        D.due("mark(0, 6)", k.mark(0, 6), CellKeys.BAD);
        D.due("mark(7, 1)", k.mark(7, 1), CellKeys.BAD);
        D.due("mark(-1, 1)", k.mark(-1, 1), CellKeys.BAD);
        D.due("none kept", Due.jail("n2 iA iB").mark(0, 2), 0);
    }

    private static void keys() {
        CellKeys k = Due.jail("n4 tABC iB bCDA sDA1");
        D.due("key of a two", k.key(0, 3), 1);
        doorIs(k, 0, 1, 3, 2, 0);
        D.due("key again", k.key(0, 3), 3);
        D.found(k, UNLIKE, "key: keeps the other one", 0, k.key(0, 2));
        D.found(k, UNLIKE, "key: inside", 1, k.key(1, 2));
        D.due("key of a blind one", k.key(2, 1), 3);
        D.found(k, UNLIKE, "key: keeps the other one", 2, k.key(2, 0));
        D.due("key of a sprung one", k.key(3, 2), 0);
        doorIs(k, 3, 4, 2, N, 1);
        D.due("key alike", k.key(0, 0), CellKeys.BAD);
        D.due("key alike, inside", k.key(1, 1), CellKeys.BAD);
        D.due("key(4, 0)", k.key(4, 0), CellKeys.BAD);
        D.due("key(0, 4)", k.key(0, 4), CellKeys.BAD);
        D.due("key(-1, 0)", k.key(-1, 0), CellKeys.BAD);
        D.due("key(0, -1)", k.key(0, -1), CellKeys.BAD);
        doorIs(k, 0, 1, 3, 2, 0);
    }

    private static void quarrels() {
        CellKeys k = Due.jail("n8 qAH");
        D.due("quarrel(7, 0, 1)", k.quarrel(7, 0, 1), 1);
        D.due("quarrel(0, 7, 0)", k.quarrel(0, 7, 0), 1);
        D.due("quarrel(0, 7, 0)", k.quarrel(0, 7, 0), 0);
        D.due("foes(7)", k.foes(7), 0);
        D.due("quarrel(3, 1, 1)", k.quarrel(3, 1, 1), 0);
        D.due("quarrel(3, 7, 1)", k.quarrel(3, 7, 1), 0);
        D.due("foes(3)", k.foes(3), 130);
        D.due("foes(1)", k.foes(1), 8);
        D.due("foes(7)", k.foes(7), 8);
        D.due("pairs", k.count(4), 2);
        D.due("quarrel alike", k.quarrel(2, 2, 1), CellKeys.BAD);
        D.due("quarrel is 2", k.quarrel(2, 3, 2), CellKeys.BAD);
        D.due("quarrel is -1", k.quarrel(2, 3, -1), CellKeys.BAD);
        D.due("quarrel(8, ..)", k.quarrel(8, 3, 1), CellKeys.BAD);
        D.due("quarrel(.., 8, ..)", k.quarrel(3, 8, 1), CellKeys.BAD);
        D.due("quarrel(-1, ..)", k.quarrel(-1, 3, 1), CellKeys.BAD);
        D.due("quarrel(.., -1, ..)", k.quarrel(3, -1, 1), CellKeys.BAD);
        D.due("foes(8)", k.foes(8), CellKeys.BAD);
        D.due("foes(-1)", k.foes(-1), CellKeys.BAD);
        D.due("pairs stay", k.count(4), 2);
    }
}
