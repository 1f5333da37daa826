/** Promise 1. */
public final class NewObjectTest {
    public static void main(String[] args) {
        Due d = new Due();
        Due.due("NONE", -1, () -> ShapedItems.NONE);
        Due.due("items()", Due.ARGUMENT, () -> d.x.items());
        Due.due("major(0)", Due.ARGUMENT, () -> d.x.major(0));
        Due.due("wipe()", 0, () -> d.x.wipe());
        for (int i = 0; i < 8; i++) {
            int rule = i;
            d.check(rule, Due.MISSING);
            Due.due("forget(" + rule + ")", false, () -> d.x.forget(rule));
        }
        Due.due("rule(0)", Due.ARGUMENT, () -> d.x.rule(0));
        Due one = new Due().rules("i");
        Due other = new Due();
        one.check(0, 1);
        other.check(0, Due.MISSING);
        Due.end();
    }
}
