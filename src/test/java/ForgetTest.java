/** Promise 4. */
public final class ForgetTest {
    private static void forget(Due d, int rule, Object want) {
        Due.due("forget(" + rule + ")", want, () -> d.x.forget(rule));
    }

    public static void main(String[] args) {
        Due d = new Due().rules("B", "[A]/i");
        d.check(0, 2).matches(0, "07", true);
        forget(d, 1, true);
        forget(d, 1, false);
        d.check(0, Due.MISSING).check(1, Due.MISSING).matches(0, "07", Due.MISSING);
        forget(d, 0, true);
        d.check(0, Due.MISSING);
        forget(d, 7, false);
        for (int rule : new int[] {-1, 8, Integer.MIN_VALUE, Integer.MAX_VALUE}) {
            forget(d, rule, Due.INDEX);
        }
        d.typed("i");
        forget(d, 0, false);
        forget(d, 8, Due.INDEX);
        d.rule(0, "/s", 2).check(0, 1);
        d.rules("H", "H");
        forget(d, 0, true);
        d.rule(7, "i", 1).check(1, 2).check(0, Due.MISSING);
        Due.end();
    }
}
