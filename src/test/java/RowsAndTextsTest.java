/** Promises 1 to 9: rows, texts. */
final class RowsAndTextsTest {
    private static final int NOTHING = 1, BEYOND = 2, NOUGHT = 4, SIZE = 5;
    private static final Due D = new Due();

    public static void main(String[] args) {
        newObject();
        rows();
        laysAndAts();
        tears();
        copies();
        copyRefusals();
        means();
        texts();
        puts();
        D.end();
    }

    private static void newObject() {
        CellKeys k = new CellKeys();
        for (int what = 0; what < 8; what++) {
            D.due("new: count(" + what + ")", k.count(what), 0);
        }
        for (int r = 0; r < 6; r++) {
            D.found(k, NOTHING, "new: at(" + r + ", 0)", r, k.at(r, 0));
        }
        for (int t = 0; t < 4; t++) {
            D.found(k, NOTHING, "new: fault(" + t + ")", 6 + t, k.fault(t));
        }
    }

    private static void rows() {
        CellKeys k = new CellKeys();
        D.due("row(0, 0)", k.row(0, 0), 0);
        D.due("row(5, 60)", k.row(5, 60), 60);
        D.due("count(6)", k.count(6), 2);
        D.due("row(-1, 3)", k.row(-1, 3), CellKeys.BAD);
        D.due("row(6, 3)", k.row(6, 3), CellKeys.BAD);
        D.due("row(6, -1)", k.row(6, -1), CellKeys.BAD);
        D.due("row(0, 61)", k.row(0, 61), CellKeys.BAD);
        D.due("row(0, MAX)", k.row(0, Integer.MAX_VALUE), CellKeys.BAD);
        D.found(k, SIZE, "row(0, -1)", 0, k.row(0, -1));
        D.found(k, SIZE, "row(0, MIN)", 1, k.row(0, Integer.MIN_VALUE));
        k.lay(5, 59, 7);
        k.lay(5, 0, 8);
        k.row(5, 60);
        k.at(5, 59);
        D.due("row anew: last place", k.asked(), 0);
        k.at(5, 0);
        D.due("row anew: first place", k.asked(), 0);
        k.row(5, 2);
        D.found(k, BEYOND, "row anew is shorter", 0, k.at(5, 2));
    }

    private static void laysAndAts() {
        CellKeys k = new CellKeys();
        k.row(1, 2);
        D.due("lay", k.lay(1, 1, -5), 1);
        D.due("lay tells what it was", k.asked(), 0);
        D.due("lay again", k.lay(1, 1, Integer.MIN_VALUE), 1);
        D.due("lay tells what it was", k.asked(), -5);
        k.at(1, 0);
        D.due("other place", k.asked(), 0);
        D.due("at", k.at(1, 1), 1);
        D.due("at tells", k.asked(), Integer.MIN_VALUE);
        D.due("lay(6, ..)", k.lay(6, 0, 1), CellKeys.BAD);
        D.due("lay(-1, ..)", k.lay(-1, 0, 1), CellKeys.BAD);
        D.due("at(6, ..)", k.at(6, 0), CellKeys.BAD);
        D.due("at(-1, ..)", k.at(-1, 0), CellKeys.BAD);
        D.found(k, NOTHING, "lay(0, ..)", 0, k.lay(0, -1, 1));
        D.found(k, NOTHING, "at(0, ..)", 1, k.at(0, 99));
        D.found(k, BEYOND, "lay(1, -1, ..)", 0, k.lay(1, -1, 1));
        D.found(k, BEYOND, "lay(1, 2, ..)", 1, k.lay(1, 2, 1));
        D.found(k, BEYOND, "at(1, -1)", 2, k.at(1, -1));
        D.found(k, BEYOND, "at(1, 2)", 3, k.at(1, 2));
        D.due("asked() stays behind refusals", k.asked(), Integer.MIN_VALUE);
    }

    private static void tears() {
        CellKeys k = new CellKeys();
        k.row(2, 1);
        D.due("tear", k.tear(2), 1);
        D.due("count(6)", k.count(6), 0);
        D.found(k, NOTHING, "at behind tear", 0, k.at(2, 0));
        D.found(k, NOTHING, "tear again", 1, k.tear(2));
        D.due("tear(6)", k.tear(6), CellKeys.BAD);
        D.due("tear(-1)", k.tear(-1), CellKeys.BAD);
    }

    private static void copies() {
        CellKeys k = new CellKeys();
        Due.fill(k, 0, 1, 2, 3, 4, 5);
        k.row(1, 3);
        D.due("copy", k.copy(0, 2, 1, 1, 2), 1);
        is(k, 1, 0, 3, 4);
        D.due("copy forward onto itself", k.copy(0, 0, 0, 1, 4), 1);
        is(k, 0, 1, 1, 2, 3, 4);
        D.due("copy backward onto itself", k.copy(0, 2, 0, 0, 3), 1);
        is(k, 0, 2, 3, 4, 3, 4);
        D.due("copy none at the ends", k.copy(0, 5, 1, 3, 0), 1);
        is(k, 1, 0, 3, 4);
    }

    private static void is(CellKeys k, int r, int... places) {
        for (int i = 0; i < places.length; i++) {
            k.at(r, i);
            D.due("place " + i + " of row " + r, k.asked(), places[i]);
        }
        D.due("no more in row " + r, k.at(r, places.length), CellKeys.FINDING);
    }

    private static void copyRefusals() {
        CellKeys k = new CellKeys();
        Due.fill(k, 0, 1, 2, 3);
        k.row(1, 2);
        D.due("copy(6, ..)", k.copy(6, 0, 0, 0, -1), CellKeys.BAD);
        D.due("copy(.., -1, ..)", k.copy(0, 0, -1, 0, -1), CellKeys.BAD);
        D.found(k, SIZE, "copy n -1, missing", 0, k.copy(5, 0, 0, 0, -1));
        D.found(k, NOTHING, "copy from missing", 0, k.copy(5, -1, 0, 0, 1));
        D.found(k, NOTHING, "copy to missing", 1, k.copy(0, 9, 5, 0, 1));
        D.found(k, BEYOND, "copy from -1", 0, k.copy(0, -1, 1, 0, 0));
        D.found(k, BEYOND, "copy from 4, none", 1, k.copy(0, 4, 1, 0, 0));
        D.found(k, BEYOND, "copy to -1", 2, k.copy(0, 0, 1, -1, 0));
        D.found(k, BEYOND, "copy to 3, none", 3, k.copy(0, 0, 1, 3, 0));
        D.found(k, BEYOND, "copy 2 from 2", 4, k.copy(0, 2, 1, 0, 2));
        D.found(k, BEYOND, "copy 2 to 1", 5, k.copy(0, 0, 1, 1, 2));
        D.found(k, BEYOND, "copy MAX from 1", 6, k.copy(0, 1, 1, 1, Integer.MAX_VALUE));
        D.found(k, BEYOND, "copy from MAX", 7, k.copy(0, Integer.MAX_VALUE, 1, 0, 2));
        D.found(k, BEYOND, "copy to MAX", 8, k.copy(0, 0, 1, Integer.MAX_VALUE, 2));
        is(k, 1, 0, 0);
    }

    private static void means() {
        CellKeys k = new CellKeys();
        Due.fill(k, 0, 0, 3);
        D.due("mean", k.mean(0), 1);
        D.due("mean is cut", k.asked(), 1);
        Due.fill(k, 0, 0, -3);
        k.mean(0);
        D.due("mean below 0 is cut", k.asked(), -1);
        Due.fill(k, 0, Integer.MAX_VALUE, Integer.MAX_VALUE, Integer.MAX_VALUE);
        k.mean(0);
        D.due("mean of large ones", k.asked(), Integer.MAX_VALUE);
        Due.fill(k, 0, Integer.MIN_VALUE, Integer.MIN_VALUE);
        k.mean(0);
        D.due("mean of small ones", k.asked(), Integer.MIN_VALUE);
        k.row(1, 0);
        D.found(k, NOUGHT, "mean of none", 0, k.mean(1));
        D.found(k, NOTHING, "mean of missing", 0, k.mean(2));
        D.due("mean(6)", k.mean(6), CellKeys.BAD);
        D.due("mean(-1)", k.mean(-1), CellKeys.BAD);
        D.due("asked() stays", k.asked(), Integer.MIN_VALUE);
    }

    private static void texts() {
        CellKeys k = new CellKeys();
        D.due("text(0, 0)", k.text(0, 0), 0);
        D.due("text(3, 100)", k.text(3, 100), 100);
        D.due("count(7)", k.count(7), 2);
        D.due("text(4, 1)", k.text(4, 1), CellKeys.BAD);
        D.due("text(-1, 1)", k.text(-1, 1), CellKeys.BAD);
        D.due("text(4, -1)", k.text(4, -1), CellKeys.BAD);
        D.due("text(0, 101)", k.text(0, 101), CellKeys.BAD);
        D.found(k, SIZE, "text(0, -1)", 0, k.text(0, -1));
        D.due("a blank", k.put(3, 99, 65), 1032);
        k.text(3, 100);
        D.due("blanks anew", k.put(3, 99, 65), 1032);
    }

    private static void puts() {
        CellKeys k = new CellKeys();
        k.text(1, 2);
        D.due("put", k.put(1, 0, 200), 1032);
        D.due("put tells a byte", k.put(1, 0, 256 + 127), 1000 - 56);
        D.due("put cuts", k.put(1, 0, -129), 1127);
        D.due("put cuts below", k.put(1, 0, 128), 1127);
        D.due("put cuts above", k.put(1, 0, 0), 1000 - 128);
        D.due("the other byte", k.put(1, 1, 0), 1032);
        D.due("put(4, ..)", k.put(4, 0, 0), CellKeys.BAD);
        D.due("put(-1, ..)", k.put(-1, 0, 0), CellKeys.BAD);
        D.found(k, NOTHING, "put(0, ..)", 0, k.put(0, -1, 0));
        D.found(k, BEYOND, "put(1, -1, ..)", 0, k.put(1, -1, 0));
        D.found(k, BEYOND, "put(1, 2, ..)", 1, k.put(1, 2, 0));
        D.due("asked() stays", k.asked(), 0);
    }
}
