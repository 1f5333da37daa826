import java.util.List;

/** The sentences of the promises that name a limit or an exception: the last inside, the first outside, the order. */
public final class CallBoundsTest {
    private static final int[] WRONG_RULES = {-1, 8, 9, 256, Integer.MIN_VALUE, Integer.MAX_VALUE};

    private static void type(Due d, int four, Object want) {
        Due.due(String.format("type(0x%08x)", four), want, () -> d.x.type(four));
    }

    /** Promise 2: "IllegalArgumentException when one of them is not 32 .. 126", at each of the four places. */
    private static void charactersTyped() {
        for (int at = 0; at < 4; at++) {
            int others = 0x61616161 & ~(255 << 8 * at);
            for (int c = 1; c < 256; c++) {
                type(new Due(), others | c << 8 * at, c >= 32 && c <= 126 ? true : Due.ARGUMENT);
            }
        }
    }

    /** Promise 2: "up to the first 0": what stands behind it is neither typed nor looked at. */
    private static void firstZero() {
        for (int count = 0; count < 4; count++) {
            for (int behind : new int[] {0x61616161, 0x01010101, 0x7f7f7f7f, -1}) {
                int kept = (1 << 8 * count) - 1;
                int four = 0x61616161 & kept | behind & ~kept & ~(255 << 8 * count);
                Due d = new Due().typed("\"");
                type(d, four, true);
                d.rule(0, "\"", 1).matches(0, String.format("%02x", 0x60 + count) + "61".repeat(count), true);
            }
        }
    }

    /** Promise 2: "false, typing none, when there would be more than 40". */
    private static void charactersInAll() {
        for (int before = 34; before <= 40; before++) {
            for (int count = 0; count <= 4; count++) {
                Due d = new Due().typed("\"" + "x".repeat(before - 1));
                boolean fits = before + count <= 40;
                type(d, Due.four("abcd".substring(0, count)), fits);
                int left = fits ? 40 - before - count : 40 - before;
                for (int i = 0; i < left; i++) {
                    type(d, 'z', true);
                }
                type(d, 'z', false);
            }
        }
    }

    /** Promise 2: "(before that)": a wrong character is told of also when there would be more than 40. */
    private static void wrongCharacterFirst() {
        for (int before = 37; before <= 40; before++) {
            Due d = new Due().typed("x".repeat(before));
            type(d, 0x7f616161, Due.ARGUMENT);
            type(d, 0x61611f61, Due.ARGUMENT);
            type(d, 0x6161611f, Due.ARGUMENT);
            type(d, 0x61616161, false);
            type(d, 0x01006161, before <= 38);
        }
    }

    /** Promises 3, 4 and 11 to 13: "IndexOutOfBoundsException when rule is not 0 .. 7". */
    private static void rules() {
        for (int rule = 0; rule < 8; rule++) {
            int r = rule;
            Due d = new Due().rule(rule, "i", 1).check(rule, 1).matches(rule, "05", true).matchesAt(rule, 0, true);
            Due.due("forget(" + r + ")", true, () -> d.x.forget(r));
            Due.due("forget(" + r + ")", false, () -> d.x.forget(r));
            for (int other = 0; other < 8; other++) {
                d.check(other, Due.MISSING);
            }
        }
        Due full = new Due().rules("i", "i", "i", "i", "i", "i", "i", "i");
        for (int rule : WRONG_RULES) {
            full.rule(rule, "i", Due.INDEX).check(rule, Due.INDEX).matches(rule, "05", Due.INDEX);
            full.matchesAt(rule, 0, Due.INDEX);
            Due.due("forget(" + rule + ")", Due.INDEX, () -> full.x.forget(rule));
        }
    }

    /** Promise 3: the index before the TYPE; "Nothing is typed then, also when this throws". */
    private static void nothingTypedThen() {
        for (String text : new String[] {"", "i", "i/", "\"", "[".repeat(40), "\"" + "x".repeat(38) + "\""}) {
            for (int rule : WRONG_RULES) {
                new Due().rule(rule, text, Due.INDEX).rule(0, "", Due.ARGUMENT).rule(0, "i/s", 2);
                new Due().rule(rule, text, Due.INDEX).rule(0, "\"" + "y".repeat(38) + "\"", 1);
            }
            Object want = PlainModel.count(text) < 0 ? Due.ARGUMENT : (Object) PlainModel.count(text);
            new Due().rule(5, text, want).rule(0, "", Due.ARGUMENT).rule(0, "i/s", 2);
            new Due().rule(5, text, want).rule(0, "\"" + "y".repeat(38) + "\"", 1);
        }
    }

    private static void feed(Due d, long w, int n, int want) {
        Due.due("feed(" + w + ", " + n + ")", want, () -> d.x.feed(w, n));
    }

    /** Promise 5: "NONE, changing nothing, when n is not 1 .. 8 or there would be more than 40". */
    private static void counts() {
        for (int before = 0; before <= 40; before++) {
            for (int n = -2; n <= 10; n++) {
                Due d = new Due().bytes("00".repeat(before));
                boolean fits = n >= 1 && n <= 8 && before + n <= 40;
                feed(d, -1, n, fits ? before + n : ShapedItems.NONE);
                Due.due("wipe()", fits ? before + n : before, () -> d.x.wipe());
            }
            for (int n : new int[] {Integer.MIN_VALUE, Integer.MAX_VALUE, Integer.MIN_VALUE + 4, 256 + 1, 40, -8}) {
                Due d = new Due().bytes("00".repeat(before));
                feed(d, 0, n, ShapedItems.NONE);
                Due.due("wipe()", before, () -> d.x.wipe());
            }
        }
    }

    /** Promise 5: "n bytes behind the others, the lowest one of w first", and none of those above. */
    private static void bytesOfW() {
        for (int n = 1; n <= 8; n++) {
            Due d = new Due();
            feed(d, 0x1a, 1, 1);
            feed(d, 0x8877665544332211L, n, n + 1);
            feed(d, 0xccbbaaL, 3, n + 4);
            Object want = n == 1 ? 0x11aabbccL : Due.ARGUMENT;
            Due.due("number(0) behind " + n, want, () -> d.x.number(0));
            Due s = new Due().rule(0, "\"1234567~\"", 1);
            feed(s, 0x68, 1, 1);
            feed(s, 0x7e37363534333231L, n, n + 1);
            if (n < 8) {
                feed(s, 0x7e37363534333231L >>> 8 * n | -1L << 8 * (8 - n), 8 - n, 9);
            }
            s.matchesAt(0, 0, true);
        }
        Due minus = new Due();
        feed(minus, Long.MIN_VALUE | 0x47, 8, 8);
        Due.due("items()", 1, () -> minus.x.items());
        Due.due("number(0)", 7, () -> minus.x.number(0));
    }

    /** Promise 6: "how many there were", from none to 40, and none then. */
    private static void wipes() {
        Due d = new Due();
        for (int count = 0; count <= 40; count++) {
            int want = count;
            d.bytes("f6".repeat(count));
            Due.due("wipe()", want, () -> d.x.wipe());
            Due.due("items()", Due.ARGUMENT, () -> d.x.items());
            Due.due("wipe()", 0, () -> d.x.wipe());
            feed(d, 0xf6, 1, 1);
            Due.due("items()", 1, () -> d.x.items());
        }
    }

    /** Promises 8 to 10 and 13: "IndexOutOfBoundsException when there is no such item". */
    private static void items() {
        for (int count = 1; count <= 24; count++) {
            Due d = new Due().rules("y").bytes(String.format("%02x", 0x7f + count) + "05".repeat(count - 1));
            for (int i = -2; i <= 25; i++) {
                int k = i;
                boolean is = k >= 0 && k < count;
                String of = "(" + k + ") of " + count;
                Due.due("major" + of, is ? (Object) (k == 0 ? 4 : 0) : Due.INDEX, () -> d.x.major(k));
                Due.due("number" + of, is ? (Object) (k == 0 ? count - 1 : 5) : Due.INDEX, () -> d.x.number(k));
                Due.due("depth" + of, is ? (Object) (k == 0 ? 1 : 2) : Due.INDEX, () -> d.x.depth(k));
                d.matchesAt(0, k, is ? (Object) true : Due.INDEX);
            }
        }
    }

    /** Items of bytes that were there before are no such items, and bytes that are not well formed come first. */
    private static void itemsOfBefore() {
        Due d = new Due().rules("y").bytes("97" + "00".repeat(23));
        Due.due("items()", 24, () -> d.x.items());
        d.bytes("81 05").matchesAt(0, 1, true).matchesAt(0, 2, Due.INDEX).matchesAt(0, 23, Due.INDEX);
        Due.due("major(2)", Due.INDEX, () -> d.x.major(2));
        d.bytes("82 05");
        for (int i : new int[] {0, 1, 2, -1, 23, 24, Integer.MAX_VALUE}) {
            Due.due("major(" + i + ")", Due.ARGUMENT, () -> d.x.major(i));
            Due.due("number(" + i + ")", Due.ARGUMENT, () -> d.x.number(i));
            Due.due("depth(" + i + ")", Due.ARGUMENT, () -> d.x.depth(i));
            d.matchesAt(0, i, Due.ARGUMENT);
        }
    }

    /** Promise 11: in a chain of 1 to 8 rules all are counted, and one that is wanting anywhere is found. */
    private static void chains() {
        String[] ways = {"%s", "(%s)", "[%s]", "{%s:i}", "{i:%s}", "#1(%s)", "i/[s,?t/%s]"};
        for (String way : ways) {
            for (int length = 1; length <= 8; length++) {
                Due d = new Due();
                for (int r = 0; r < length - 1; r++) {
                    d.rule(r, String.format(way, (char) ('B' + r)), way.startsWith("i/") ? 2 : 1);
                }
                d.check(0, Due.MISSING).check(length - 1, Due.MISSING);
                d.rule(length - 1, "i", 1).check(0, length).check(length - 1, 1);
                Due.due("forget", true, () -> d.x.forget(0));
                d.check(0, Due.MISSING);
                if (length > 1) {
                    d.check(1, length - 1);
                }
            }
        }
    }

    /** Promise 11: a rule that leads to any of the eight at once counts them and itself, each once. */
    private static void fans() {
        for (int set = 0; set < 256; set++) {
            StringBuilder letters = new StringBuilder("i");
            for (int r = 0; r < 8; r++) {
                letters.append((set >> r & 1) == 0 ? "" : "/" + (char) ('A' + r));
            }
            int all = Integer.bitCount(set | 1);
            Due d = new Due().rules("[" + letters + "]", "i", "i", "i", "i", "i", "i", "i").check(0, all);
            d.rule(0, "{" + letters.substring(letters.length() - 1) + ":" + letters + "}", 1).check(0, all);
            d.rule(0, letters.toString(), Integer.bitCount(set) + 1).check(0, (set & 1) == 0 ? all : Due.STATE);
            for (int r = 1; r < 8; r++) {
                int rule = r;
                Due.due("forget(" + r + ")", true, () -> d.x.forget(rule));
                d.check(0, (set >> r & 1) == 1 ? Due.MISSING : (set & 1) == 0 ? (Object) all : Due.STATE);
                d.rule(r, "s", 1);
            }
        }
    }

    /** Promises 3, 4 and 11: what an old type led to is gone with it. */
    private static void newTypes() {
        Due d = new Due();
        for (int i = 0; i < 12; i++) {
            d.rule(0, "[B,C]/[D]", 2).check(0, Due.MISSING).rule(0, "i", 1).check(0, 1);
            d.rule(0, "A", 1).check(0, Due.STATE).rule(0, "[A]", 1).check(0, 1);
            d.rule(0, "[H", Due.ARGUMENT).check(0, 1).rule(0, "A/H/", Due.ARGUMENT).check(0, 1);
            Due.due("forget(0)", true, () -> d.x.forget(0));
            d.check(0, Due.MISSING);
        }
    }

    /** Promise 11: "comes back to itself by leading barely, once or several times", one to eight times. */
    private static void rounds() {
        for (String way : new String[] {"%s", "(%s)", "i/((%s))", "[%s]", "{%s:i}", "{i:(%s)}", "#1(%s)", "([%s])"}) {
            boolean bare = way.indexOf('[') < 0 && way.indexOf('{') < 0 && way.indexOf('#') < 0;
            for (int length = 1; length <= 8; length++) {
                Due d = new Due();
                for (int r = 0; r < length; r++) {
                    String next = String.valueOf((char) ('A' + (r + 1) % length));
                    d.typed(r == 0 ? String.format(way, next) : next).x.rule(r);
                }
                for (int r = 0; r < length; r++) {
                    d.check(r, bare ? Due.STATE : (Object) length);
                    d.matches(r, "60", bare ? Due.STATE : (Object) false).matches(r, "", bare ? Due.STATE : Due.ARGUMENT);
                }
            }
        }
        new Due().rules("[B]", "C", "B").check(0, Due.STATE);
        new Due().rules("i", "C", "B").check(0, 1).check(1, Due.STATE);
        new Due().rules("A/B").check(0, Due.MISSING).rule(1, "i", 1).check(0, Due.STATE).check(1, 1);
    }

    /** "Of several exceptions the one that stands first in the throws clause is thrown", of all that go together. */
    private static void order() {
        Due d = new Due().rules("i", "B", "H", "D/H", "[B]", "[D]");
        List<Object> checks = List.of(1, Due.STATE, Due.MISSING, Due.MISSING, Due.STATE, Due.MISSING, Due.MISSING);
        for (String bytes : new String[] {"05", "", "81", "05 05", "1c"}) {
            boolean good = bytes.equals("05");
            for (int rule = 0; rule < 7; rule++) {
                Object wrong = rule == 0 ? null : checks.get(rule);
                d.check(rule, checks.get(rule));
                d.matches(rule, bytes, wrong != null ? wrong : good ? (Object) true : Due.ARGUMENT);
                d.matchesAt(rule, 0, wrong != null ? wrong : good ? (Object) true : Due.ARGUMENT);
                for (int k : new int[] {-1, 1, 24, Integer.MIN_VALUE, Integer.MAX_VALUE}) {
                    d.matchesAt(rule, k, wrong != null ? wrong : good ? Due.INDEX : Due.ARGUMENT);
                }
            }
            for (int rule : WRONG_RULES) {
                d.check(rule, Due.INDEX).matches(rule, bytes, Due.INDEX);
                d.matchesAt(rule, 0, Due.INDEX).matchesAt(rule, -1, Due.INDEX);
            }
        }
    }

    /** Promise 13: "as if it were the whole": at level 0, and what stands round it does not matter. */
    private static void asIfTheWhole() {
        Due d = new Due().rules("B", "C", "D", "E", "F", "G", "H", "i/#9(A)").bytes("81 82 c9 c9 00 c9 00");
        d.matchesAt(5, 2, true).matchesAt(4, 2, false).matchesAt(0, 3, true).matchesAt(0, 5, true);
        d.matchesAt(0, 0, false).matchesAt(0, 1, false).matchesAt(0, 4, true).matchesAt(0, 6, true);
        Due e = new Due().rules("[*i]", "{i:i}").bytes("84 82 00 01 81 60 80 a1 00 01");
        e.matchesAt(0, 1, true).matchesAt(0, 4, false).matchesAt(0, 6, true).matchesAt(1, 7, true);
        e.matchesAt(0, 0, false).matchesAt(1, 8, false).matchesAt(0, 9, false);
    }

    /** "An object is used for at most 512 calls": the 512th answers as the first ones do, also after refused ones. */
    private static void manyCalls() {
        Due d = new Due();
        for (int calls = 0; calls + 8 <= 512; calls += 8) {
            feed(d, 0x0581, 2, 2);
            type(d, Due.four("[?i]"), true);
            d.rule(calls / 8 % 8, "", 1).rule(0, "", Due.ARGUMENT);
            d.check(calls / 8 % 8, 1).matchesAt(calls / 8 % 8, 0, true).matchesAt(8, 0, Due.INDEX);
            Due.due("wipe()", 2, () -> d.x.wipe());
        }
    }

    public static void main(String[] args) {
        charactersTyped();
        firstZero();
        charactersInAll();
        wrongCharacterFirst();
        rules();
        nothingTypedThen();
        counts();
        bytesOfW();
        wipes();
        items();
        itemsOfBefore();
        chains();
        fans();
        newTypes();
        rounds();
        order();
        asIfTheWhole();
        manyCalls();
        Due.end();
    }
}
