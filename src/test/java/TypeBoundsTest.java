/** The sentences on the grammar of a TYPE that name a limit: the last inside it, and the first outside it. */
public final class TypeBoundsTest {
    private static final String[] OFTENS = {"?", "*", "+"};
    /** What stands round a TYPE that lies one bracket deeper; only the first leaves a letter bare. */
    private static final String[] BEFORE = {"(", "[", "{", "{i:", "#1("};
    private static final String[] BEHIND = {")", "]", ":i}", "}", ")"};

    private static String digits(int count) {
        return "9876543210".substring(0, count);
    }

    private static String list(String open, String each, int count, String close) {
        String inside = (each + ",").repeat(count);
        return open + inside.substring(0, Math.max(0, inside.length() - 1)) + close;
    }

    /** "A text of up to 40 characters is a TYPE by this grammar": none is no TYPE, 40 may be one. */
    private static void lengths() {
        Due.noTypes("");
        Due.types(1, "\"" + "x".repeat(38) + "\"", "\"" + "/".repeat(38) + "\"");
        Due.types(20, "i/".repeat(19) + "-1", "10" + "/i".repeat(19));
        Due.types(2, "\"" + "x".repeat(18) + "\"/\"" + "y".repeat(17) + "\"");
        Due.types(1, "[-9999..-999,-9999..-999,-9999..-999,10]", "{\"abcdefghijklmnop\":-1000..1000/i/s/t/b}");
        Due.noTypes("i/".repeat(20), "\"" + "x".repeat(39), "[i" + "/s".repeat(19), "(" + "i/".repeat(19) + "i");
    }

    /** 40 characters that want more: there is no 41st one to look at, whatever was typed before. */
    private static void wantingBehindTheLast() {
        String[] ends = {"#", "#1", "#1(", "#1(i", "-", "1.", "1..", "1..-", "[", "[i", "[i,", "[?", "[[]", "{", "{i", "{i:",
            "{i:i", "{i:i,", "{*", "{{}", "(", "(i", "(i/", "i/", "\"", "\"a"};
        for (String end : ends) {
            String fill = (end.length() % 2 == 0 ? "" : "10/") + "i/".repeat(20);
            String text = fill.substring(0, 40 - end.length()) + end;
            new Due().rule(1, "\"" + "i]})/".repeat(7) + "i]}\"", 1).rule(0, text, Due.ARGUMENT).rule(0, "", Due.ARGUMENT);
            new Due().rule(1, "i/".repeat(19) + "10", 20).rule(0, end, Due.ARGUMENT).rule(0, "", Due.ARGUMENT);
        }
    }

    /** "(no blanks": nowhere but between the quotes. */
    private static void blanks() {
        for (String text : new String[] {"i", "-12..34", "[?i,+s/t]", "{*i:s,A:t}", "#1(i)", "(A/B)", "[]", "{}", "i/s"}) {
            for (int at = 0; at <= text.length(); at++) {
                Due.noTypes(text.substring(0, at) + " " + text.substring(at));
            }
        }
        Due.types(1, "\" \"", "[\" i , s \"]", "{\" \":\"  \"}");
    }

    /** Each character alone, and each where a TYPE may not end. */
    private static void characters() {
        for (char c = 32; c < 127; c++) {
            Object want = "istbnyABCDEFGH0123456789".indexOf(c) >= 0 ? 1 : Due.ARGUMENT;
            new Due().rule(3, String.valueOf(c), want);
            new Due().rule(3, "[" + c + "]", want);
            new Due().rule(3, "(" + c + ")", want);
            new Due().rule(3, "i/" + c, want.equals(1) ? 2 : Due.ARGUMENT);
            new Due().rule(3, "s" + c, Due.ARGUMENT);
            new Due().rule(3, "A" + c, Due.ARGUMENT);
        }
        for (String text : new String[] {"[?i,(s/t)]", "{1:i,\"a\":[]}", "#1(n/b)", "(((i)))", "\"ab\""}) {
            Due.types(1, text);
            for (int length = 0; length < text.length(); length++) {
                Due.noTypes(text.substring(0, length));
            }
            Due.noTypes(text + ")", text + "]", text + "}", text + ",", text + ":", text + "/", text + "\"", text + "i");
        }
    }

    /** "INTEGER: [-] one to four digits". */
    private static void integers() {
        for (String sign : new String[] {"", "-"}) {
            for (int count = 0; count <= 6; count++) {
                String text = sign + digits(count);
                Object want = count >= 1 && count <= 4 ? 1 : Due.ARGUMENT;
                new Due().rule(0, text, want).rule(0, text + "..1", want).rule(0, "1.." + text, want);
                new Due().rule(0, "{" + text + ":i}", want).rule(0, "[?" + text + "]", want);
            }
        }
        Due.noTypes("--1", "+1", "1-", "1..--1", "1.-1", "-", "-i", "1..i", "i..1", "1..\"1\"", "1.5", "0x1", "1e3");
        for (int dots = 0; dots <= 5; dots++) {
            new Due().rule(0, "1" + ".".repeat(dots) + "/2", dots == 0 ? 2 : Due.ARGUMENT);
            new Due().rule(0, "12" + ".".repeat(dots) + "34", dots == 0 || dots == 2 ? 1 : Due.ARGUMENT);
        }
        Due.noTypes("1..2..3", "..", "..1", "1..");
    }

    /** "characters other than that, also none". */
    private static void texts() {
        for (int count = 0; count <= 38; count++) {
            Due.types(1, "\"" + "x".repeat(count) + "\"");
            Due.noTypes("\"" + "x".repeat(count), "x".repeat(count) + "\"");
        }
        for (char c = 32; c < 127; c++) {
            new Due().rule(3, "\"" + c + "\"", c == '"' ? Due.ARGUMENT : 1);
            new Due().rule(3, "[\"a" + c + "b\"]", c == '"' ? Due.ARGUMENT : 1);
        }
        Due.types(1, "\"((((((((((\"", "\"A/A/A\"", "\"I'm 12345\"");
        Due.noTypes("\"\"\"", "\"a\"b\"");
    }

    /** "a letter A .. H", and "# digit": one digit, no less and no more. */
    private static void lettersAndDigits() {
        Due.types(1, "A", "B", "C", "D", "E", "F", "G", "H");
        Due.noTypes("@", "I", "J", "Z", "a", "h", "AB", "A1", "1A", "-A");
        for (char c = 32; c < 127; c++) {
            new Due().rule(3, "#" + c + "(i)", c >= '0' && c <= '9' ? 1 : Due.ARGUMENT);
        }
        Due.noTypes("#(i)", "#00(i)", "#10(i)", "#-1(i)", "#1", "#1i", "#1[i]", "#1{i:i}", "#1()", "#1(i,s)", "#1(?i)");
    }

    /** "OFTEN:  ?  |  *  |  +", one or none, before entries and members alone. */
    private static void oftens() {
        for (String often : OFTENS) {
            Due.types(1, "[" + often + "i]", "{" + often + "i:i}", "[i," + often + "i]", "{i:i," + often + "i:i}");
            Due.noTypes(often, often + "i", "(" + often + "i)", "#1(" + often + "i)", "{i:" + often + "i}",
                    "[i" + often + "]", "{i" + often + ":i}", "[i/" + often + "i]", "[" + often + "]", "{" + often + "}",
                    "[" + often + ",i]");
            for (String second : OFTENS) {
                Due.noTypes("[" + often + second + "i]", "{" + often + second + "i:i}");
            }
        }
        for (char c = 33; c < 127; c++) {
            boolean good = "?*+-0123456789".indexOf(c) >= 0;
            new Due().rule(3, "[" + c + "1]", good ? 1 : Due.ARGUMENT);
            new Due().rule(3, "{" + c + "1:i}", good ? 1 : Due.ARGUMENT);
        }
    }

    /** "an array has at most 6 entries, a map 6 members", also none, each by itself. */
    private static void parts() {
        for (int count = 0; count <= 8; count++) {
            Object want = count <= 6 ? 1 : Due.ARGUMENT;
            new Due().rule(0, list("[", "i", count, "]"), want).rule(0, list("{", "i:i", count, "}"), want);
            new Due().rule(0, list("[", "+A", count, "]"), want).rule(0, list("(#1([", "1", count, "]))"), want);
            new Due().rule(0, list("[i,[", "i", count, "],i]"), want).rule(0, list("{i:[", "i", count, "]}"), want);
            new Due().rule(0, list("{{", "1:1", count, "}:i}"), want).rule(0, list("[{", "s:t", count, "}]"), want);
        }
        Due.types(1, "[[i,i,i,i,i,i],[i,i,i,i,i,i],i,i,i,i]", "[i/i/i/i/i/i/i/i]", "[i,i,i,i,i,[i,i,i,i,i,i]]",
                "{i:[i,i,i,i,i,i],i:{i:i,i:i,i:i,i:i}}");
        Due.noTypes("[i,i,i,i,i,i,]", "{i:i,i:i,i:i,i:i,i:i,i:i,}", "[,]", "{,}", "[,i]", "[i,,i]", "{i:i,,i:i}", "{i}",
                "{i:}", "{:i}", "{i,i}", "{i:i:i}", "{i/s:i}", "[i:i]", "[i}", "{i:i]", "(i]", "[i)", "(i,i)", "(i:i)",
                "()");
    }

    private static void brackets(String before, String behind, int deep, int deepest) {
        if (deep < deepest) {
            for (int i = 0; i < BEFORE.length; i++) {
                brackets(before + BEFORE[i], BEHIND[i] + behind, deep + 1, deepest);
            }
            return;
        }
        Object want = deep <= 4 ? 1 : Due.ARGUMENT;
        new Due().rule(0, before + "i" + behind, want).rule(0, before + "\"[{(\"" + behind, want);
        new Due().rule(0, before + "[]" + behind, deep < 4 ? 1 : Due.ARGUMENT);
        new Due().rule(0, before + "{}" + behind, deep < 4 ? 1 : Due.ARGUMENT);
    }

    /** "All brackets together lie in one another at most 4 deep", whichever they are. */
    private static void bracketsInOneAnother() {
        for (int deepest = 0; deepest <= 5; deepest++) {
            brackets("", "", 0, deepest);
        }
        Due.types(5, "((((i))))/[[[[]]]]/{{}:{}}/#1([])/([])");
        Due.types(1, "[[[[i],[i]],[[i],[i]]],[[[i]]]]");
        Due.noTypes("[[[[i],[i]],[[i],[[i]]]],[[[i]]]]", "i/(((((i)))))", "[i,i,i,[[[[i]]]]]");
    }

    /** "no letter A .. H stands BARELY, outside all [ ], { } and #d( ), more than once". */
    private static void bareLetters() {
        for (int i = 0; i < 25; i++) {
            String one = BEFORE[i % 5] + "A" + BEHIND[i % 5];
            String two = BEFORE[i / 5] + one + BEHIND[i / 5];
            boolean bare = i == 0;
            Object want = bare ? Due.ARGUMENT : 2;
            new Due().rule(0, two + "/A", want).rule(0, "A/" + two, want).rule(0, two + "/(A)", want);
            new Due().rule(0, "((A))/" + two, want).rule(0, "(" + two + "/A)", want);
            new Due().rule(0, two + "/B", 2).rule(0, two + "/[A]", 2).rule(0, two + "/\"A\"", 2);
        }
        for (char a = 'A'; a <= 'H'; a++) {
            for (char b = 'A'; b <= 'H'; b++) {
                new Due().rule(0, a + "/" + b, a == b ? Due.ARGUMENT : 2);
                new Due().rule(0, "(((" + a + ")))/i/" + b, a == b ? Due.ARGUMENT : 3);
                new Due().rule(0, "[" + a + "/" + b + "]/{" + a + ":" + b + "}/#1(" + a + "/" + b + ")", 3);
            }
        }
        Due.types(8, "A/B/C/D/E/F/G/H", "((A/B)/(C/D))/((E/F)/(G/H))");
        Due.noTypes("A/B/C/D/E/F/G/H/A", "A/B/C/D/E/F/G/H/(H)", "((A/B)/(C/D))/((E/F)/(G/A))");
    }

    /** "those between ( ) count instead of the one that ( ) is, those inside [ ], { } and #d( ) don't". */
    private static void counts() {
        for (int count = 1; count <= 12; count++) {
            String many = "i" + "/s".repeat(count - 1);
            Due.types(count, many, "(" + many + ")", "((((" + many + "))))");
            Due.types(1, "[" + many + "]", "{i:" + many + "}", "{(" + many + "):i}", "#1(" + many + ")", "([" + many + "])");
            Due.types(count + 2, "n/(" + many + ")/b", "(n/((" + many + ")/b))");
        }
        Due.types(3, "i/(s/t)");
    }

    public static void main(String[] args) {
        lengths();
        wantingBehindTheLast();
        blanks();
        characters();
        integers();
        texts();
        lettersAndDigits();
        oftens();
        parts();
        bracketsInOneAnother();
        bareLetters();
        counts();
        Due.end();
    }
}
