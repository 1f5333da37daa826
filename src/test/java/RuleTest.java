/** Promise 3, and the grammar of a TYPE. */
public final class RuleTest {
    private static void alternatives() {
        Due.types(1, "i", "s", "t", "b", "n", "y", "A", "H", "(i)", "((i))", "[]", "{}", "\"\"", "\"/\"", "[i/s/t]",
                "{i:s/t}", "#0(i/s)", "#9(i)", "{(i/s):t}", "\" !~\"");
        Due.types(2, "i/s", "(i/s)", "((i/s))", "A/B", "(A)/B", "A/[A]", "A/{A:A}", "A/#1(A)", "A/\"A\"", "i/i",
                "[A,A]/{A:A,A:A}");
        Due.types(3, "i/(s/t)", "(i/s)/t", "((i)/(s/t))", "(i/(s/(t)))", "A/B/C", "1/2/3");
        Due.types(7, "A/(B/(C/D)/E)/(F/G)");
        Due.types(20, "i/i/i/i/i/i/i/i/i/i/i/i/i/i/i/i/i/i/i/i");
        Due.noTypes("", "/", "i/", "/i", "i//s", "ii", "i s", " i", "i ", "a", "I", "x", "i)", "(i", "()", ")", "(", "]",
                "i/]", "I", "@", "Z", "?i", "*i", "+i", "i,s", "i:s", ".", "'a'");
    }

    private static void integers() {
        Due.types(1, "0", "-0", "9", "1234", "-1234", "0000", "1..2", "-9999..9999", "5..1", "-1..-2", "0001..-0001");
        Due.noTypes("-", "--1", "12345", "-12345", "1.", "1..", "1.2", "1...2", "..2", "1..12345", "1..2..3", "1..s", "+1",
                "1-", "1..-", "1-2");
    }

    private static void texts() {
        Due.types(1, "\"a\"", "\"a b\"", "\"[[[[[[\"", "\"12345\"", "\"\"");
        Due.types(2, "\"a\"/\"a\"");
        Due.noTypes("\"", "\"a", "\"a\"b", "\"a\"\"", "\"\"\"\"", "a\"");
    }

    private static void letters() {
        Due.types(2, "A/[A/A]", "(A)/(B)", "[A]/#1(A)");
        Due.types(8, "A/B/C/D/E/F/G/H");
        Due.noTypes("I", "A/A", "(A)/A", "A/(A)", "(A/A)", "((A)/i)/A", "A/B/A", "A/[A]/A", "AB", "H/\"H\"/(H)");
    }

    private static void arrays() {
        Due.types(1, "[i]", "[?i]", "[*i]", "[+i]", "[i,s]", "[i,i,i,i,i,i]", "[?i/s,*(t),+[i]]", "[[i,i,i,i,i,i],i,i,i,i,i]");
        Due.noTypes("[", "[i", "[,]", "[i,]", "[,i]", "[i,i,i,i,i,i,i]", "[i:i]", "[?]", "[??i]", "[i?]", "[i}", "[i)", "[ i]",
                "[i s]", "[i/]", "[i,i,i,i,i,i,]", "[?*i]", "{[i]", "[i]]");
    }

    private static void maps() {
        Due.types(1, "{i:i}", "{?i:i}", "{*i:i/s}", "{+A:A}", "{1:i,\"a\":s}", "{i:i,i:i,i:i,i:i,i:i,i:i}",
                "{(i/s):i/s}", "{[i]:{i:i}}", "{1..2:i}", "{#1(i):i}");
        Due.noTypes("{", "{i", "{i}", "{i:}", "{:i}", "{i:i", "{i:i,}", "{,}", "{i:i,i:i,i:i,i:i,i:i,i:i,i:i}", "{i/s:i}",
                "{i:i]", "{i:?i}", "{i,i}", "{i:i:i}", "{??i:i}", "{i?:i}");
    }

    private static void tags() {
        Due.types(1, "#1(i)", "#0(#9(i))", "#1(i/s)");
        Due.types(2, "#1(i)/#1(i)");
        Due.noTypes("#", "#1", "#1i", "#x(i)", "#(i)", "#12(i)", "#-1(i)", "#1()", "#1(i", "#1[i]", "#1 (i)", "##1(i)");
    }

    private static void brackets() {
        Due.types(1, "((((i))))", "[[[[i]]]]", "[[[[]]]]", "{{{{}:i}:i}:i}", "#1(#1(#1(#1(i))))", "[{i:(#1(i))}]",
                "[(((i)))]", "[\"(((((\"]", "[[[[i],[i]],[i]]]");
        Due.types(2, "((((i))))/((((s))))");
        Due.noTypes("(((((i)))))", "[[[[[]]]]]", "[[[[[i]]]]]", "{{{{{}:i}:i}:i}:i}", "#1(#1(#1(#1(#1(i)))))", "[{i:(#1((i)))}]",
                "((((#1(i)))))", "((((i/[]))))", "[[[[{}]]]]", "[[[[(i)]]]]", "{i:{i:{i:{i:[]}}}}");
    }

    private static void exceptions() {
        Due d = new Due();
        for (int rule : new int[] {-1, 8, Integer.MIN_VALUE, Integer.MAX_VALUE}) {
            d.rule(rule, "i", Due.INDEX);
            d.rule(0, "", Due.ARGUMENT);
            d.rule(rule, "i/", Due.INDEX);
            d.rule(0, "s/t", 2);
        }
        d.rules("i").rule(0, "s/", Due.ARGUMENT).rule(0, "", Due.ARGUMENT);
        d.matches(0, "05", true).matches(0, "40", false);
        d.rule(0, "[[[i", Due.ARGUMENT).check(0, 1).matches(0, "05", true);
        d.rule(0, "B", 1).rule(0, "s/", Due.ARGUMENT).check(0, Due.MISSING);
    }

    private static void anew() {
        Due d = new Due();
        d.rule(7, "[*i,[t]]", 1).rule(6, "{1:H}", 1).rule(7, "s", 1);
        d.matches(7, "41 00", true).matches(7, "82 01 81 60", false).matches(6, "a1 01 40", true);
        d.rule(7, "H", 1).check(7, Due.STATE).rule(7, "t", 1).check(7, 1);
    }

    public static void main(String[] args) {
        alternatives();
        integers();
        texts();
        letters();
        arrays();
        maps();
        tags();
        brackets();
        exceptions();
        anew();
        Due.end();
    }
}
