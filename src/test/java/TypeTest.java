/** Promise 2. */
public final class TypeTest {
    private static void type(Due d, int four, Object want) {
        Due.due("type(" + four + ")", want, () -> d.x.type(four));
    }

    private static void order() {
        Due d = new Due();
        type(d, 0x2E2E2D31, true);
        d.rule(0, "", Due.ARGUMENT);
        type(d, 0x2E2E312D, true);
        type(d, 0x0032, true);
        d.rule(0, "", 1);
        d.matches(0, "20", true).matches(0, "02", true).matches(0, "03", false).matches(0, "21", false);
    }

    private static void firstZero() {
        Due d = new Due();
        type(d, 0, true);
        type(d, 0x69006900, true);
        d.rule(0, "", Due.ARGUMENT);
        type(d, 0xFF010069, true);
        d.rule(0, "", 1);
        type(d, 0x01690069, true);
        d.rule(0, "", 1);
    }

    private static void wrongCharacters() {
        Due d = new Due().typed("i/");
        for (int c : new int[] {1, 31, 127, 128, 255}) {
            type(d, c, Due.ARGUMENT);
            type(d, 's' | c << 8, Due.ARGUMENT);
            type(d, 0x00747474 | c << 24, Due.ARGUMENT);
        }
        type(d, -1, Due.ARGUMENT);
        type(d, Integer.MIN_VALUE | 0x747474, Due.ARGUMENT);
        d.rule(0, "s", 2);
        Due e = new Due();
        type(e, Due.four("\" ~\""), true);
        e.rule(0, "", 1).matches(0, "62 20 7e", true);
    }

    private static void limit() {
        Due d = new Due().typed("\"" + "a".repeat(36));
        type(d, Due.four("bcde"), false);
        type(d, Due.four("bcd"), true);
        type(d, 'x', false);
        type(d, 0, true);
        type(d, 0x0100, true);
        type(d, 31, Due.ARGUMENT);
        d.rule(0, "", Due.ARGUMENT);
    }

    private static void exactlyForty() {
        Due d = new Due().typed("\"" + "a".repeat(35));
        type(d, Due.four("bcd"), true);
        type(d, Due.four("\"x"), false);
        type(d, Due.four("xxxx"), false);
        type(d, Due.four("xxx") | 127 << 24, Due.ARGUMENT);
        type(d, Due.four("\""), true);
        d.rule(0, "", 1);
        d.matches(0, "78 26" + "61".repeat(35) + "626364", true);
        d.matches(0, "78 26" + "61".repeat(35) + "626365", false);
        type(d, Due.four("i"), true);
        d.rule(0, "", 1);
    }

    public static void main(String[] args) {
        order();
        firstZero();
        wrongCharacters();
        limit();
        exactlyForty();
        Due.end();
    }
}
