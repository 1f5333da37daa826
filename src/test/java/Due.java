import java.util.NoSuchElementException;

/** Calls of one object, written as texts and hex digits, whose answers are compared with those that are due. */
final class Due {
    static final String INDEX = "throws.IndexOutOfBoundsException";
    static final String ARGUMENT = "throws.IllegalArgumentException";
    static final String STATE = "throws.IllegalStateException";
    static final String MISSING = "throws.NoSuchElementException";

    private static int wrong = 0;

    ShapedItems x = new ShapedItems();

    interface Call {
        Object answer();
    }

    static Object answerOf(Call call) {
        try {
            return call.answer();
        } catch (RuntimeException e) {
            return "throws." + e.getClass().getSimpleName();
        }
    }

    static void due(String what, Object want, Call call) {
        Object got = answerOf(call);
        if (!String.valueOf(want).equals(String.valueOf(got))) {
            wrong++;
            System.out.println(what + " answered " + got + ", due is " + want);
        }
    }

    static void end() {
        System.exit(wrong == 0 ? 0 : 1);
    }

    static int four(String text) {
        int four = 0;
        for (int i = 0; i < text.length(); i++) {
            four |= text.charAt(i) << (8 * i);
        }
        return four;
    }

    Due typed(String text) {
        for (int i = 0; i < text.length(); i += 4) {
            String part = text.substring(i, Math.min(text.length(), i + 4));
            if (!x.type(four(part))) {
                throw new NoSuchElementException("the test types too much: " + text);
            }
        }
        return this;
    }

    Due rule(int rule, String text, Object want) {
        typed(text);
        due("rule(" + rule + ") of " + text, want, () -> x.rule(rule));
        return this;
    }

    /** Gives the rules from A on their types, which must be good ones. */
    Due rules(String... texts) {
        for (int i = 0; i < texts.length; i++) {
            typed(texts[i]);
            int rule = i;
            Object got = answerOf(() -> x.rule(rule));
            if (!(got instanceof Integer)) {
                due("rule(" + i + ") of " + texts[i], "some alternatives", () -> got);
            }
        }
        return this;
    }

    Due bytes(String hex) {
        x.wipe();
        String digits = hex.replace(" ", "");
        for (int i = 0; i < digits.length(); i += 2) {
            x.feed(Integer.parseInt(digits.substring(i, i + 2), 16), 1);
        }
        return this;
    }

    Due items(String hex, Object want) {
        bytes(hex);
        due("items() of " + hex, want, () -> x.items());
        return this;
    }

    Due check(int rule, Object want) {
        due("check(" + rule + ")", want, () -> x.check(rule));
        return this;
    }

    Due matches(int rule, String hex, Object want) {
        bytes(hex);
        due("matches(" + rule + ") of " + hex, want, () -> x.matches(rule));
        return this;
    }

    Due matchesAt(int rule, int k, Object want) {
        due("matchesAt(" + rule + ", " + k + ")", want, () -> x.matchesAt(rule, k));
        return this;
    }

    /** Texts that are each a TYPE with so many alternatives. */
    static void types(int alternatives, String... texts) {
        for (String text : texts) {
            new Due().rule(3, text, alternatives).rule(3, "", ARGUMENT);
        }
    }

    static void noTypes(String... texts) {
        for (String text : texts) {
            new Due().rule(3, text, ARGUMENT);
        }
    }

    /** Bytes that are each well formed, of so many items. */
    static void wellFormed(int items, String... hexes) {
        for (String hex : hexes) {
            new Due().items(hex, items);
        }
    }

    static void notWellFormed(String... hexes) {
        for (String hex : hexes) {
            Due d = new Due().items(hex, ARGUMENT);
            due("major(0) of " + hex, ARGUMENT, () -> d.x.major(0));
            due("number(-1) of " + hex, ARGUMENT, () -> d.x.number(-1));
            due("depth(99) of " + hex, ARGUMENT, () -> d.x.depth(99));
        }
    }

    /** Whether items match a type that leads to no rule. */
    static void type(String text, String yes, String no) {
        Due d = new Due().rules(text);
        each(d, text, yes, true);
        each(d, text, no, false);
    }

    private static void each(Due d, String text, String items, boolean want) {
        for (String hex : items.split(",")) {
            if (!hex.isBlank()) {
                d.bytes(hex.trim());
                due(text + " matches " + hex.trim(), want, () -> d.x.matches(0));
            }
        }
    }
}
