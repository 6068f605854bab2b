/** Compares answers with those that are due, and tells each one that is not. */
final class Due {
    private int wrong = 0;
    private int looked = 0;

    void due(String call, long got, long want) {
        looked++;
        if (got != want) {
            wrong++;
            System.out.println(call + " answered " + got + ", due is " + want);
        }
    }

    void check(String what, boolean holds) {
        due(what, holds ? 1 : 0, 1);
    }

    /** A refusal by a finding: the answer, finding() and how often it was answered. */
    void found(CellKeys k, int f, String call, int before, int got) {
        due(call, got, CellKeys.FINDING);
        due(call + ": finding()", k.finding(), f);
        due(call + ": findings(" + f + ")", k.findings(f), before + 1);
    }

    void end() {
        System.out.println(wrong == 0 ? looked + " answers are as due" : wrong + " of " + looked + " are not as due");
        if (wrong != 0 || looked == 0) {
            System.exit(1);
        }
    }

    /** Writes a text by text() and put(). */
    static void write(CellKeys k, int t, String words) {
        k.text(t, words.length());
        for (int i = 0; i < words.length(); i++) {
            if (words.charAt(i) != ' ') {
                k.put(t, i, words.charAt(i));
            }
        }
    }

    static CellKeys jail(String words) {
        CellKeys k = new CellKeys();
        write(k, 3, words);
        if (k.jail(3) < 0) {
            throw new IllegalStateException("no jail: " + words);
        }
        return k;
    }

    static void fill(CellKeys k, int r, int... places) {
        k.row(r, places.length);
        for (int i = 0; i < places.length; i++) {
            k.lay(r, i, places[i]);
        }
    }
}
