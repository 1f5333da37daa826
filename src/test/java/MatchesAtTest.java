/** Promise 13. */
public final class MatchesAtTest {
    private static void each() {
        Due d = new Due().rules("i", "[*A]", "{t:B}", "#1(y)/\"a\"").bytes("a1 61 61 83 00 01 c1 02");
        boolean[][] due = {
            {false, false, false, true, true, false, true},
            {false, false, false, false, false, false, false},
            {false, false, false, false, false, false, false},
            {false, true, false, false, false, true, false},
        };
        for (int rule = 0; rule < 4; rule++) {
            for (int k = 0; k < 7; k++) {
                d.matchesAt(rule, k, due[rule][k]);
            }
        }
        d.bytes("83 82 00 01 80 81 60");
        d.matchesAt(1, 0, false).matchesAt(1, 1, true).matchesAt(1, 4, true).matchesAt(1, 5, false);
        d.bytes("82 a1 60 81 05 a1 00 80");
        d.matchesAt(2, 1, true).matchesAt(2, 5, false).matchesAt(2, 0, false).matchesAt(1, 3, true);
    }

    /** An item deep in another is matched from level 0 on, as if it were the whole. */
    private static void levels() {
        Due d = new Due().rules("B", "C", "D", "E/i", "[A]").bytes("81 81 81 81 00");
        d.matchesAt(0, 0, false).matchesAt(0, 1, false).matchesAt(0, 2, true).matchesAt(0, 4, true);
        d.matchesAt(1, 0, false).matchesAt(1, 1, true).matchesAt(4, 3, true).matchesAt(4, 4, false);
    }

    private static void exceptions() {
        Due d = new Due().rules("i", "B", "H").bytes("82 00 60");
        for (int k : new int[] {-1, 3, 24, Integer.MIN_VALUE, Integer.MAX_VALUE}) {
            d.matchesAt(0, k, Due.INDEX).matchesAt(8, k, Due.INDEX);
            d.matchesAt(1, k, Due.STATE).matchesAt(2, k, Due.MISSING);
        }
        d.matchesAt(-1, 0, Due.INDEX).matchesAt(8, 0, Due.INDEX).matchesAt(7, 0, Due.MISSING);
        d.matchesAt(0, 2, false).matchesAt(0, 1, true);
        d.bytes("82 00");
        d.matchesAt(0, 9, Due.ARGUMENT).matchesAt(0, -1, Due.ARGUMENT).matchesAt(0, 0, Due.ARGUMENT);
        d.matchesAt(1, 0, Due.STATE).matchesAt(2, 0, Due.MISSING).matchesAt(8, 0, Due.INDEX);
    }

    public static void main(String[] args) {
        each();
        levels();
        exceptions();
        Due.end();
    }
}
