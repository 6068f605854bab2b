/** Promises 24 to 37 and 40: the calls that search, in many jails of all kinds, as the model answers them. */
final class SearchTest {
    private static final Due D = new Due();

    /** Jails in which keys are traded once and more, and such as shut sets off. */
    private static final String[] JAILS = {
        "n4kACbCAB", "n4bACBkBAqDC", "n4kADsCB2", "n4bACBkBAlCD2", "n5bACBkBAqCDqDE", "n5kAElBA3bDAClEB1",
        "n5kAEsBA2bDABkEB", "n5bABCkBAkCAlDE2", "n5kAEkBEsCD0bECA", "n5bACEtBAEkDAqDC",
        "n6tAEBsBC1sDA0bFDEqCD", "n6bAECtBFEtCABkDAlEF3", "n7kAElBD2lDG3lEF3bGBCqDC",
        "n7bACBbBFEtCAEtDBEkEBkFBbGCBqAF", "n8tAGFsBD1lCG1tEFHbGEBqDE",
        "n8sAG0kBHlCE3tDBEkEFlFD3lGA3qDCqHEqFEqDH",
        // Here trades go round in a ring: only their number ends them.
        "n8tAFCtBHEsCG0sDH2lEH1lFE4lGB3lHC4qDAqEAqGAqGCqGDqGEqHAqHDqHG",
        "n8 iA sBH1 bCBD qAC qHD", "n8 lAB7 sHG0 tDAH"
    };
    private static final int[] TRADES = {1, 2, 1, 2, 3, 3, 3, 3, 3, 4, 4, 4, 4, 5, 4, 6, 20};
    private static final int DRAWN = 250;

    private final CellKeys k = new CellKeys();
    private final Model m = new Model();
    private final String words;

    private SearchTest(String words) {
        this.words = words;
        k.text(0, words.length());
        m.text(0, words.length());
        for (int i = 0; i < words.length(); i++) {
            k.put(0, i, words.charAt(i));
            m.put(0, i, words.charAt(i));
        }
        same("jail(0)", k.jail(0), m.jail(0));
    }

    public static void main(String[] args) {
        for (int i = 0; i < JAILS.length; i++) {
            SearchTest t = new SearchTest(JAILS[i]);
            t.compareAll();
            int trades = t.compareTrades();
            if (i < TRADES.length) {
                D.due(JAILS[i] + ": trades()", trades, TRADES[i]);
            }
        }
        state = 20261119;
        for (int i = 0; i < DRAWN; i++) {
            SearchTest t = new SearchTest(drawJail());
            t.compareAll();
            t.compareTrades();
        }
        D.end();
    }

    private void same(String call, long got, long want) {
        D.due(words + ": " + call, got, want);
    }

    /** Compares a call's answer and what asked() tells behind it. */
    private void both(String call, long got, long want) {
        same(call, got, want);
        same(call + ", asked()", k.asked(), m.asked());
    }

    private void compareAll() {
        int n = m.count(0);
        both("reached()", k.reached(), m.reached());
        both("most()", k.most(), m.most());
        both("ever()", k.ever(), m.ever());
        for (int x = 0; x < n; x++) {
            both("ring(" + x + ")", k.ring(x), m.ring(x));
            both("ill(" + x + ")", k.ill(x), m.ill(x));
            both("without(" + x + ")", k.without(x), m.without(x));
            both("bands(" + (x + 1) + ")", k.bands(x + 1), m.bands(x + 1));
        }
        for (int i = 0; i < 24; i++) {
            int set = draw(1 << n);
            both("least(" + set + ")", k.least(set), m.least(set));
            both("band(" + set + ")", k.band(set), m.band(set));
            if (Integer.bitCount(set) < 7) {
                both("ways(" + set + ")", k.ways(set), m.ways(set));
                both("order(" + set + ", 1)", k.order(set, 1), m.order(set, 1));
                same("digest() behind order()", k.digest(), m.digest());
            }
        }
        for (int f = 0; f < 12; f += 3) {
            both("culprits(" + f + ")", k.culprits(f), m.culprits(f));
        }
        for (int b = 1; b <= n && n < 5; b++) {
            both("deals(" + b + ", 2)", k.deals(b, 2), m.deals(b, 2));
            same("digest() behind deals()", k.digest(), m.digest());
        }
    }

    private int compareTrades() {
        int trades = k.trades();
        same("trades()", trades, m.trades());
        same("digest() behind trades()", k.digest(), m.digest());
        return trades;
    }

    private static long state = 7;

    private static int draw(int below) {
        state = state * 6364136223846793005L + 1442695040888963407L;
        return (int) ((state >>> 33) % below);
    }

    private static String drawJail() {
        int n = 3 + draw(4);
        StringBuilder s = new StringBuilder("n" + n);
        for (int x = 0; x < n; x++) {
            int y = (x + 1 + draw(n - 1)) % n;
            int z = (x + 1 + draw(n - 1)) % n;
            String letters = "" + (char) ('A' + x) + (char) ('A' + y);
            boolean two = y != z && draw(2) == 0;
            int kind = draw(8);
            if (kind == 0) {
                s.append('i').append((char) ('A' + x));
            } else if (two) {
                s.append(kind % 3 == 0 ? 'b' : 't').append(letters).append((char) ('A' + z));
            } else if (kind < 3) {
                s.append('l').append(letters).append(draw(n));
            } else if (kind < 5) {
                s.append('s').append(letters).append(draw(3));
            } else {
                s.append('k').append(letters);
            }
        }
        for (int q = draw(n + 1); q > 0; q--) {
            int x = draw(n);
            s.append('q').append((char) ('A' + x)).append((char) ('A' + (x + 1 + draw(n - 1)) % n));
        }
        return s.toString();
    }
}
