/** Promises 5 and 6. */
public final class FeedAndWipeTest {
    private static void feed(Due d, long w, int n, int want) {
        Due.due("feed(" + w + ", " + n + ")", want, () -> d.x.feed(w, n));
    }

    private static void wipe(Due d, int want) {
        Due.due("wipe()", want, () -> d.x.wipe());
    }

    private static void order() {
        Due d = new Due();
        feed(d, 0xFFFFFF0000001AL, 2, 2);
        feed(d, 0x030201L, 3, 5);
        Due.due("number(0)", 0x00010203L, () -> d.x.number(0));
        wipe(d, 5);
        feed(d, 0x8877665544332247L, 8, 8);
        Due.due("items()", 1, () -> d.x.items());
        d.rules("s").matchesAt(0, 0, true);
        wipe(d, 8);
        feed(d, -1L, 1, 1);
        wipe(d, 1);
        feed(d, 0x8000000000000047L, 8, 8);
        Due.due("items()", 1, () -> d.x.items());
        wipe(d, 8);
        feed(d, 0x6100000000000067L, 8, 8);
        Due.due("items()", Due.ARGUMENT, () -> d.x.items());
    }

    private static void wrongCounts() {
        Due d = new Due();
        feed(d, 7, 1, 1);
        for (int n : new int[] {0, 9, -1, Integer.MIN_VALUE, Integer.MAX_VALUE, 40}) {
            feed(d, 0, n, ShapedItems.NONE);
        }
        Due.due("number(0)", 7, () -> d.x.number(0));
        wipe(d, 1);
        wipe(d, 0);
    }

    private static void limit() {
        Due d = new Due();
        feed(d, 0x2658, 2, 2);
        for (int i = 1; i <= 4; i++) {
            feed(d, 0, 8, 2 + 8 * i);
        }
        feed(d, 0, 7, ShapedItems.NONE);
        feed(d, 0, 8, ShapedItems.NONE);
        Due.due("items()", Due.ARGUMENT, () -> d.x.items());
        feed(d, 0, 6, 40);
        feed(d, 0, 1, ShapedItems.NONE);
        Due.due("items()", 1, () -> d.x.items());
        Due.due("number(0)", 38, () -> d.x.number(0));
        wipe(d, 40);
        wipe(d, 0);
        Due.due("items()", Due.ARGUMENT, () -> d.x.items());
        feed(d, 0xF6, 1, 1);
        Due.due("items()", 1, () -> d.x.items());
    }

    private static void wipeLeavesRules() {
        Due d = new Due().rules("i").typed("s/");
        feed(d, 1, 1, 1);
        wipe(d, 1);
        d.check(0, 1).rule(1, "t", 2);
        d.matches(0, "", Due.ARGUMENT);
    }

    public static void main(String[] args) {
        order();
        wrongCounts();
        limit();
        wipeLeavesRules();
        Due.end();
    }
}
