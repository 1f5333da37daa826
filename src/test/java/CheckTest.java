/** Promise 11. */
public final class CheckTest {
    private static void exceptions() {
        Due d = new Due().rules("i");
        for (int rule : new int[] {-1, 8, Integer.MIN_VALUE, Integer.MAX_VALUE}) {
            d.check(rule, Due.INDEX);
        }
        d.check(0, 1).check(1, Due.MISSING);
    }

    private static void counts() {
        new Due().rules("[A]").check(0, 1);
        new Due().rules("[A,B]", "i").check(0, 2).check(1, 1);
        new Due().rules("{B:C}", "#1(D)", "(E)", "i", "[*F]", "{\"x\":G}", "H", "[A]")
                .check(0, 8).check(1, 2).check(2, 8).check(3, 1).check(7, 8);
        new Due().rules("\"B\"/[\"C\"]/{\"D\":\"E\"}").check(0, 1);
        new Due().rules("B", "C", "D", "E", "F", "G", "H", "i").check(0, 8).check(6, 2).check(7, 1);
        new Due().rules("i", "A", "B", "C", "D", "E", "F", "G").check(7, 8).check(0, 1);
        new Due().rules("B/C/D", "D", "D", "i").check(0, 4).check(1, 2);
    }

    private static void wanting() {
        Due d = new Due().rules("[B]", "{i:C}", "#1(D)");
        d.check(0, Due.MISSING).check(1, Due.MISSING).check(2, Due.MISSING);
        d.rule(3, "i", 1).check(0, 4).check(1, 3).check(2, 2);
        new Due().rules("A/B").check(0, Due.MISSING);
        new Due().rules("A/[B]").check(0, Due.MISSING);
        new Due().rules("{C:i}", "i").check(0, Due.MISSING).check(1, 1);
        new Due().rules("B", "A/[C]").check(0, Due.MISSING).check(1, Due.MISSING);
    }

    private static void goingRound() {
        new Due().rules("A").check(0, Due.STATE);
        new Due().rules("(A)").check(0, Due.STATE);
        new Due().rules("i/((A))").check(0, Due.STATE);
        new Due().rules("B", "A").check(0, Due.STATE).check(1, Due.STATE);
        new Due().rules("B", "[A]").check(0, 2).check(1, 2);
        new Due().rules("B", "{A:i}").check(0, 2);
        new Due().rules("B", "{i:(A)}").check(0, 2);
        new Due().rules("B", "#1(A)").check(0, 2);
        new Due().rules("[B]", "B").check(0, Due.STATE).check(1, Due.STATE);
        new Due().rules("B", "C", "D", "E", "F", "G", "H", "A").check(0, Due.STATE).check(4, Due.STATE);
        new Due().rules("H", "A", "B", "C", "D", "E", "F", "G").check(0, Due.STATE).check(4, Due.STATE);
        new Due().rules("i", "C", "B", "[B]").check(0, 1).check(3, Due.STATE);
        new Due().rules("B/[A]", "C", "i/[A]/[B]/(D)", "s").check(0, 4);
    }

    private static void changesNothing() {
        Due d = new Due().rules("A", "i").typed("s");
        d.check(0, Due.STATE).check(1, 1).check(2, Due.MISSING).check(9, Due.INDEX);
        d.rule(0, "/t", 2).check(0, 1);
    }

    public static void main(String[] args) {
        exceptions();
        counts();
        wanting();
        goingRound();
        changesNothing();
        Due.end();
    }
}
