/** Promise 12, and what matches a type. */
public final class MatchesTest {
    private static final String ALL = "00,17,1a ffffffff,20,3a ffffffff,40,41 61,60,61 61,80,81 00,a0,a1 00 00,c1 00,f4,f5,f6";

    private static void signs() {
        Due.type("i", "00,17,1a ffffffff,20,3a ffffffff,18 05", "40,60,80,a0,c1 00,f4,f6");
        Due.type("s", "40,41 61", "00,20,60,61 61,80,a0,c1 40,f4,f6");
        Due.type("t", "60,61 61", "00,20,40,41 61,80,a0,c1 60,f4,f6");
        Due.type("b", "f4,f5", "f6,00,14,15,40,60,80,a0,c1 f4");
        Due.type("n", "f6", "f4,f5,00,16,40,60,80,a0,c1 f6");
        Due.type("y", ALL, "");
        Due.type("i/n", "00,20,f6", "f4,40");
        Due.type("(i/(s/(n)))", "00,20,f6,40", "f4,60");
    }

    private static void integers() {
        Due.type("5", "05,18 05,1a 00000005", "04,06,25,24,61 35,f4");
        Due.type("-5", "24,38 04", "05,04,25,23");
        Due.type("-0", "00", "20");
        Due.type("0000", "00", "01,20");
        Due.type("-1", "20", "00,01");
        Due.type("9999", "19 270f", "19 270e,19 2710,39 270e");
        Due.type("-9999", "39 270e", "39 270f,39 270d,19 270f");
        Due.type("0..9", "00,09,05,18 09", "0a,20,40,60,f4,80,c5 05");
        Due.type("-5..-2", "24,21,22", "20,25,00,02,05");
        Due.type("-1..1", "20,00,01", "21,02");
        Due.type("3..3", "03", "02,04");
        Due.type("3..2", "", "02,03,20");
        Due.type("1..-1", "", "00,01,20");
        Due.type("-9999..9999", "00,39 270e,19 270f", "39 270f,19 2710,1a ffffffff,3a ffffffff");
        Due.type("20", "14", "f4");
    }

    private static void texts() {
        Due.type("\"\"", "60,78 00", "61 61,40,80,00");
        Due.type("\"ab\"", "62 6162", "62 6161,61 61,63 616263,42 6162,62 6262,60");
        Due.type("\"i/[\"", "63 69 2f 5b", "00,63 69 2f 5c");
        Due.type("[\"a\",\"b\"]", "82 61 61 61 62", "82 61 62 61 61,82 61 61 61 61");
    }

    private static void tags() {
        Due.type("#1(i)", "c1 00,d8 01 20", "c2 00,c1 60,00,c1 c1 00");
        Due.type("#0(y)", "c0 80,c0 c0 00", "c1 80,00");
        Due.type("#9(#1(n/b))", "c9 c1 f4,c9 c1 f6", "c9 f4,c1 c9 f4,c9 c1 00");
        Due.type("#1([i])/#1(s)", "c1 81 00,c1 40", "c1 80,c1 60");
    }

    private static void entries() {
        Due.type("[]", "80,98 00", "81 00,a0,00");
        Due.type("[i]", "81 00", "80,82 00 00,81 60,a1 00 00,00,81 81 00");
        Due.type("[?i]", "80,81 00", "82 00 00,81 60");
        Due.type("[*i]", "80,81 00,83 00 01 02", "81 60,83 00 60 00");
        Due.type("[+i]", "81 00,83 00 01 02", "80,81 60,82 60 00");
        Due.type("[i,t]", "82 00 60", "82 60 00,81 00,83 00 60 00,80");
        Due.type("[?i,?t]", "80,81 00,81 60,82 00 60", "82 60 00,83 00 60 60");
        Due.type("[*i,t]", "81 60,83 00 00 60", "82 00 00,80,83 60 00 60");
        Due.type("[*i,i]", "", "80,81 00,82 00 00,83 00 00 00");
        Due.type("[?i,i]", "82 00 00", "81 00,80,83 00 00 00");
        Due.type("[?i,?i,i]", "83 00 00 00", "82 00 00,81 00");
        Due.type("[+i,*t,?n,b]", "83 00 60 f4,82 00 f4", "84 00 f6 f4 f5,82 00 60,84 00 60 f6 f6,84 00 00 60 f6,82 60 f4");
        Due.type("[+i,*t,?n,b]", "84 00 60 f6 f5,84 00 00 60 f4", "");
        Due.type("[*i/t,n]", "83 00 60 f6,81 f6", "83 00 60 00,82 00 f4");
        Due.type("[*[*i],*{},i]", "84 80 81 00 a0 05,81 05,83 82 01 02 a0 05", "83 a0 80 05,82 81 60 05");
        Due.type("[[i,i],i]", "82 82 00 00 00", "83 00 00 00,82 81 00 00,82 00 82 00 00");
        Due.type("[*y]", "80,97 " + "00".repeat(23), "a0");
        Due.type("[i,i,i,i,i,i]", "86 00 00 00 00 00 00", "85 00 00 00 00 00,87 00 00 00 00 00 00 00");
    }

    private static void members() {
        Due.type("{}", "a0,b8 00", "a1 00 00,80,00");
        Due.type("{i:t}", "a1 00 60", "a0,a1 60 00,a1 00 00,a2 00 60 01 60,82 00 60");
        Due.type("{?i:t}", "a0,a1 00 60", "a1 60 00,a2 00 60 01 60");
        Due.type("{*i:t}", "a0,a1 00 60,a3 00 60 01 60 02 60,a2 00 60 00 60", "a2 00 60 60 60,a1 00 00");
        Due.type("{+i:t}", "a1 00 60,a3 00 60 01 60 02 60", "a0,a2 00 60 60 60");
        Due.type("{i:t,t:i}", "a2 00 60 60 00,a2 60 00 00 60", "a1 00 60,a1 60 00,a3 00 60 60 00 61 61 00");
        Due.type("{i:y,i:t}", "a2 00 60 01 00,a2 01 00 00 60,a2 00 60 01 60", "a2 00 00 01 00,a1 00 60,a3 00 60 01 60 02 60");
        Due.type("{?i:y,?i:t,+i:y}", "a1 00 00,a2 00 00 01 00,a4 00 60 01 00 02 00 03 00", "a0,a1 60 00");
        Due.type("{*i:y,i:t}", "a1 00 60,a2 00 60 01 00,a3 00 00 01 00 02 60", "a0,a1 00 00,a2 00 00 01 00");
        Due.type("{+i:y,+i:t,i:60..61}", "a3 00 60 01 60 02 18 3c,a3 00 18 3c 01 18 3c 02 60",
                "a2 00 60 01 60,a3 00 60 01 60 02 00,a2 00 60 01 18 3c,a3 00 60 01 18 3c 60 00");
        Due.type("{0..1:i,1..2:i,2..3:i,3..4:i,4..5:i}",
                "a5 01 00 02 00 03 00 04 00 05 00,a5 05 00 00 00 01 00 02 00 03 00,a5 00 00 01 00 02 00 04 00 05 00",
                "a5 00 00 01 00 01 00 01 00 05 00,a4 01 00 02 00 03 00 04 00,a5 00 00 01 00 02 00 03 00 03 00");
        Due.type("{i:i,i:i,i:i,i:i,i:i,i:i}", "a6" + "00".repeat(12), "a5" + "00".repeat(10) + ",a7" + "00".repeat(14));
        Due.type("{?n:i,?n:i,?n:i,?n:i,?n:i,+y:t}", "a1 f6 60,a2 f6 60 f6 00,a6 f6 00 f6 00 f6 00 f6 00 f6 00 00 60,ab"
                + "f600".repeat(5) + "0060".repeat(6), "a1 f6 00,a6" + "f600".repeat(6) + ",ab" + "f600".repeat(6) + "0060".repeat(5));
        Due.type("{{i:i}:[i],#1(s):#2(y)}", "a2 a1 00 00 81 00 c1 40 c2 00", "a2 a1 00 00 81 00 c1 40 c1 00");
    }

    private static void keptKeys() {
        Due.type("{1:t,?y:y}", "a1 01 60,a2 01 60 02 00", "a1 01 00,a2 01 60 01 60,a2 01 60 01 00,a1 02 00");
        Due.type("{?1:t,*y:y}", "a0,a1 01 60,a1 02 00", "a1 01 00,a2 01 60 01 60");
        Due.type("{*y:y,1:t}", "a1 01 60,a2 01 60 01 00", "a1 01 00,a1 02 60");
        Due.type("{?(1):t,*y:y}", "a1 01 60,a1 01 00,a2 01 60 01 60", "");
        Due.type("{?1..1:t,*y:y}", "a1 01 60,a1 01 00,a2 01 60 01 60", "");
        Due.type("{?\"a\":t,*y:y}", "a1 61 61 60,a1 61 62 00,a1 41 61 00", "a1 61 61 00");
        Due.type("{?(\"a\"):t,*y:y}", "a1 61 61 00", "");
        Due.type("{?i:t,*y:y}", "a1 01 00,a2 01 60 01 60", "");
        Due.type("{?[1]:t,*y:y}", "a1 81 01 00", "");
        Due.type("{?1:t,?1:i,*2:i}", "a1 01 60,a2 02 00 02 00", "a1 01 00");
        Due.type("{?-1:t,?(-1):i}", "a1 20 60,a0", "a1 20 00");
        Due.type("{?-1:t,*0:i,*y:y}", "a2 20 60 00 00", "a1 20 00,a1 00 60");
        Due.type("{*y:n,?1:t,*i:i}", "a3 01 f6 01 60 02 05,a1 01 f6", "a1 01 05");
    }

    private static void rules() {
        new Due().rules("[B,*A]/n", "i/C", "#2(A)")
                .matches(0, "81 00", true).matches(0, "82 c2 f6 82 00 f6", true).matches(0, "82 c2 00 f6", false)
                .matches(1, "c2 81 00", true).matches(2, "c2 f6", true).matches(2, "f6", false);
        new Due().rules("{*\"k\":A,?t:B}", "A/i").matches(0, "a1 61 6b a1 61 6b a0", true)
                .matches(0, "a1 61 6c 05", true).matches(0, "a1 61 6b 05", false).matches(0, "a1 61 6c 60", false);
        new Due().rules("{*B:B}", "1..3").matches(0, "a2 01 02 03 03", true).matches(0, "a1 01 04", false);
        new Due().rules("{?B:t,*y:y}", "1").matches(0, "a1 01 00", true);
    }

    /** From rule r on an integer in n arrays meets D at level 3 - r + 6 * n. */
    private static void levels() {
        Due d = new Due().rules("B", "C", "D", "E/i", "[A]");
        d.matches(0, "00", true).matches(0, "81 00", true).matches(0, "81 81 00", true);
        d.matches(1, "81 81 81 00", true).matches(2, "81 81 81 00", true).matches(3, "81 81 81 00", true);
        d.matches(0, "81 81 81 00", false).matches(3, "81 81 81 81 00", false);
        Due e = new Due().rules("B", "C", "D", "((((E))))/(i)", "(([(A)]))");
        e.matches(1, "81 81 81 00", true).matches(0, "81 81 81 00", false);
    }

    /** From rule r on 0 meets H, at the second step in, at level 25 - r. */
    private static void levelsOfLetters() {
        String[] ways = {"i/[A]", "i/{0:A}", "i/{A:i}", "i/#1(A)", "i/(([A]))", "i/[?n,*A]"};
        String[] items = {"81 81 00", "a1 00 a1 00 00", "a1 a1 00 00 00", "c1 c1 00", "81 81 00", "81 81 00"};
        for (int w = 0; w < ways.length; w++) {
            Due d = new Due().rules("B", "C", "D", "E", "F", "G", "H", ways[w]);
            d.matches(7, items[w], true).matches(6, items[w], true).matches(5, items[w], true);
            d.matches(4, items[w], false).matches(0, items[w], false);
        }
    }

    /** From rule r on what lies in the innermost item is met at level 23 - r. */
    private static void levelsOfSteps() {
        String[] ways = {"[A]/[i]", "{0:A}/{0:i}", "{A:y}/{i:y}", "#1(A)/#1(i)", "[A,5]/[y,6]", "{5:A}/{6:y}"};
        String[] items = {"81 81 81 81 00", "a1 00 a1 00 a1 00 a1 00 00", "a1 a1 a1 a1 00 00 00 00 00", "c1 c1 c1 c1 00",
            "82 82 82 82 00 06 05 05 05", "a1 05 a1 05 a1 05 a1 06 00"};
        for (int w = 0; w < ways.length; w++) {
            Due d = new Due().rules("B", "C", "D", "E", ways[w]);
            d.matches(4, items[w], true).matches(3, items[w], true);
            d.matches(2, items[w], false).matches(0, items[w], false);
        }
    }

    /** An entry that fails for its level leaves the item to the next: [7] matches where its A would be too deep. */
    private static void levelsLeaveItems() {
        Due d = new Due().rules("B", "C", "D", "E", "[?A,7]/7/[1,A]");
        String item = "82 01 82 01 81 07";
        d.matches(0, item, true).matches(1, item, true).matches(2, item, false).matches(3, item, false).matches(4, item, false);
    }

    /** Rules that lead to one another on very many ways: asked without end, this would not come back. */
    private static void manyWays() {
        Due d = new Due().rules("B/C/D/E/F/G/H", "C/D/E/F/G/H", "D/E/F/G/H", "E/F/G/H", "F/G/H", "G/H", "H",
                "[?A,?A,?A,?A,?A,n]");
        d.matches(0, "81 81 81 81 81 00", false).matches(0, "86 81 80 81 80 81 80 81 80 81 80 81 80", false);
        Due e = new Due().rules("B/C/D/E/F/G/H", "C/D/E/F/G/H", "D/E/F/G/H", "E/F/G/H", "F/G/H", "G/H", "H",
                "{*A:A,*A:A,*A:A,*A:A,*A:A,n:n}");
        e.matches(0, "a1 a1 a1 a1 a1 f6 f6 f6 f6 f6 00", false);
        e.matches(0, "a2 a1 a1 a0 a0 a0 a0 a1 a1 a0 a0 a0 a0", false);
        e.matches(0, "a1 f6 f6", true);
    }

    private static void exceptions() {
        Due d = new Due().rules("i", "B", "H");
        for (int rule : new int[] {-1, 8, Integer.MIN_VALUE, Integer.MAX_VALUE}) {
            d.matches(rule, "00", Due.INDEX).matches(rule, "1c", Due.INDEX);
        }
        d.matches(0, "", Due.ARGUMENT).matches(0, "00 00", Due.ARGUMENT).matches(0, "81", Due.ARGUMENT);
        d.matches(1, "00", Due.STATE).matches(1, "", Due.STATE);
        d.matches(2, "00", Due.MISSING).matches(2, "", Due.MISSING).matches(3, "", Due.MISSING);
        d.rule(4, "E/H", 2).matches(4, "", Due.MISSING).rule(7, "i", 1).matches(4, "", Due.STATE);
        d.matches(0, "00", true);
    }

    private static void changesNothing() {
        Due d = new Due().rules("i", "[*A]").typed("s").bytes("82 00 01");
        Due.due("matches(1)", true, () -> d.x.matches(1));
        Due.due("matches(0)", false, () -> d.x.matches(0));
        Due.due("matches(1)", true, () -> d.x.matches(1));
        d.rule(0, "/t", 2);
        Due.due("matches(1)", false, () -> d.x.matches(1));
        Due.due("items()", 3, () -> d.x.items());
    }

    public static void main(String[] args) {
        signs();
        integers();
        texts();
        tags();
        entries();
        members();
        keptKeys();
        rules();
        levels();
        levelsOfLetters();
        levelsOfSteps();
        levelsLeaveItems();
        manyWays();
        exceptions();
        changesNothing();
        Due.end();
    }
}
