/** The sentences on what matches a type that name a limit: the last inside it, and the first outside it. */
public final class MatchBoundsTest {
    private static final String[] OFTENS = {"", "?", "*", "+"};
    private static final int[] LEAST = {1, 0, 0, 1};
    private static final int[] MOST = {1, 1, 99, 99};

    /** An integer as an item, in so many bytes behind the first one. */
    private static String integer(long value, int size) {
        int major = value < 0 ? 1 : 0;
        long number = value < 0 ? -1 - value : value;
        int info = size == 1 ? 24 : size == 2 ? 25 : 26;
        return String.format("%02x%0" + 2 * size + "x", 32 * major + info, number);
    }

    private static void due(String type, String item, boolean want) {
        Due d = new Due().rules(type).bytes(item);
        Due.due(type + " matches " + item, want, () -> d.x.matches(0));
    }

    /** "an integer: that one", the least and the greatest that can be written too, however it is encoded. */
    private static void integers() {
        for (int value : new int[] {-9999, -9998, -1000, -999, -256, -24, -1, 0, 1, 9, 23, 24, 255, 256, 999, 9998, 9999}) {
            for (int near = -1; near <= 1; near++) {
                due(String.valueOf(value), integer(value + near, 2), near == 0);
                due(String.valueOf(value), integer(value + near, 4), near == 0);
            }
            if (value != 0) {
                due(String.valueOf(value), integer(-value, 4), false);
            }
            due(String.valueOf(value), integer(value + 65536L * (value < 0 ? -1 : 1), 4), false);
        }
        due("-0", "00", true);
        due("-0", "20", false);
        due("0009", "09", true);
    }

    /** Items beyond all integers that can be written: none of them may come round to a small one. */
    private static void largeIntegers() {
        long[] values = {0x7fffffffL, 0x80000000L, 0xffffffffL, -0x80000000L, -0x80000001L, -0xffffffffL, -0x100000000L,
            10000, -10000};
        for (long value : values) {
            String item = integer(value, 4);
            due("i", item, true);
            due("-9999..9999", item, false);
            due("0", item, false);
            due("-1", item, false);
            due("9999", item, false);
        }
    }

    /** "two: the integers from the one to the other, both included (none, when the second is less)". */
    private static void ranges() {
        for (int low = -3; low <= 3; low++) {
            for (int high = -3; high <= 3; high++) {
                Due d = new Due().rules(low + ".." + high);
                for (int value = -5; value <= 5; value++) {
                    d.matches(0, integer(value, 1), value >= low && value <= high);
                }
            }
        }
        Due.type("9998..9999", "19 270e,19 270f", "19 270d,19 2710,39 270e");
        Due.type("-9999..-9998", "39 270d,39 270e", "39 270c,39 270f,19 270f");
        Due.type("9999..-9999", "", "00,19 270f,39 270e");
        Due.type("0..99", "00,18 63", "f4,61 30,41 30,c0 00");
    }

    /** "b: FALSE or TRUE; n: NULL": 20 and 21, and 22; the integers of these numbers are none of them. */
    private static void simples() {
        Due.type("b", "f4,f5", "f6,14,15,16,34,35,c0 f4");
        Due.type("n", "f6", "f4,f5,14,15,16,36,c0 f6");
        Due.type("i", "14,15,16,34", "f4,f5,f6");
    }

    /** "..": "the text of just these characters", none, one less, one more, another one first and last. */
    private static void texts() {
        due("\"\"", "60", true);
        due("\"\"", "61 20", false);
        due("\"\"", "40", false);
        due("\"abc\"", "63 616263", true);
        due("\"abc\"", "78 03 616263", true);
        for (String item : new String[] {"60", "62 6162", "62 6263", "64 61626364", "63 626263", "63 616363", "63 616262",
            "43 616263", "63 414243", "00", "81 63 616263", "c0 63 616263"}) {
            due("\"abc\"", item, false);
        }
        String most = "x".repeat(37);
        due("\"" + most + "y\"", "78 26" + "78".repeat(37) + "79", true);
        due("\"" + most + "y\"", "78 26" + "78".repeat(38), false);
        due("\"" + most + "\"", "78 26" + "78".repeat(38), false);
        due("\" ~\"", "62 20 7e", true);
    }

    /** "# d ( ): a tag d whose content matches". */
    private static void tags() {
        for (int d = 0; d <= 9; d++) {
            String type = "#" + d + "(i)";
            for (int n = 0; n <= 11; n++) {
                due(type, String.format("%02x00", 0xc0 + n), n == d);
            }
            due(type, String.format("d8%02x20", d), true);
            due(type, String.format("da000000%02x20", d), true);
            due(type, String.format("d901%02x00", d), false);
            due(type, String.format("da8000%04x00", d), false);
            due(type, String.format("%02x60", 0xc0 + d), false);
            due(type, String.format("%02x", d), false);
        }
        due("#1(i)", "c1 c1 00", false);
        due("#1(#1(i))", "c1 c1 00", true);
        due("#1(#1(i))", "c1 00", false);
    }

    /** For one entry and for two of the same type: which counts of items match, when none is given back. */
    private static void entries() {
        for (int a = 0; a < 4; a++) {
            Due one = new Due().rules("[" + OFTENS[a] + "i]");
            for (int n = 0; n <= 23; n++) {
                one.matches(0, String.format("%02x", 0x80 + n) + "05".repeat(n), n >= LEAST[a] && n <= MOST[a]);
            }
            for (int b = 0; b < 4; b++) {
                Due two = new Due().rules("[" + OFTENS[a] + "i," + OFTENS[b] + "i]");
                for (int n = 0; n <= 5; n++) {
                    int left = n - Math.min(n, MOST[a]);
                    boolean want = n >= LEAST[a] && left >= LEAST[b] && left <= MOST[b];
                    two.matches(0, String.format("%02x", 0x80 + n) + "05".repeat(n), want);
                }
            }
        }
        Due.type("[]", "80,98 00", "81 00,a0,60");
        due("[?i,?i,?i,?i,?i,?i]", "86" + "00".repeat(6), true);
        due("[?i,?i,?i,?i,?i,?i]", "87" + "00".repeat(7), false);
    }

    /** "from the place that was come to on", "behind the last entry no item is left". */
    private static void placesInArrays() {
        Due.type("[*i,*t]", "84 00 01 60 61 61,81 60,81 00,80", "83 00 60 01,82 60 00");
        Due.type("[?t,i]", "81 00,82 60 00", "81 60,82 00 60");
        Due.type("[+t,i]", "82 60 00,83 60 60 00", "81 00,81 60");
        Due.type("[i,?t,i]", "82 00 00,83 00 60 00", "81 00,83 00 00 00");
        Due.type("[i,*y,i]", "", "82 00 00,83 00 00 00");
        Due.type("[*i/t,t]", "", "82 00 60,81 60");
        Due.type("[*1..3,4]", "82 01 04,81 04", "82 01 03,82 04 04");
        Due.type("[*1..3,3]", "", "82 01 03,81 03");
        Due.type("[*[],i]", "83 80 80 05,81 05", "82 81 80 05,82 05 80");
        Due.type("[[i],i]", "82 81 00 00", "82 00 81 00,81 82 00 00");
        Due.type("[[],[]]", "82 80 80", "81 80,81 82 80 80,83 80 80 80");
    }

    /** For one to three members that may all have every pair: which counts of pairs match. */
    private static void members() {
        for (int i = 0; i < 64; i++) {
            members(i % 4);
            members(i % 4, i / 4 % 4);
            members(i % 4, i / 4 % 4, i / 16);
        }
        Due.type("{}", "a0,b8 00", "a1 00 00,80,60");
        for (int n = 5; n <= 7; n++) {
            due("{i:i,i:i,i:i,i:i,i:i,i:i}", "a" + n + "0102".repeat(n), n == 6);
            due("{?i:i,?i:i,?i:i,?i:i,?i:i,?i:i}", "a" + n + "0102".repeat(n), n <= 6);
        }
    }

    private static void members(int... oftens) {
        StringBuilder text = new StringBuilder("{");
        int least = 0;
        int most = 0;
        for (int often : oftens) {
            text.append(text.length() > 1 ? "," : "").append(OFTENS[often]).append("i:i");
            least += LEAST[often];
            most += MOST[often];
        }
        Due d = new Due().rules(text.append('}').toString());
        for (int n = 0; n <= 11; n++) {
            d.matches(0, String.format("%02x", 0xa0 + n) + "0102".repeat(n), n >= least && n <= most);
        }
    }

    /** "each pair can be given to one member that MAY have it": in any order, and not to the first that may. */
    private static void pairs() {
        String[] orders = {"00 00 01 60 60 f6", "00 00 60 f6 01 60", "01 60 00 00 60 f6", "01 60 60 f6 00 00",
            "60 f6 00 00 01 60", "60 f6 01 60 00 00"};
        for (String order : orders) {
            due("{y:y,i:y,i:t}", "a3" + order, true);
            due("{i:t,i:y,y:y}", "a3" + order, true);
            due("{y:n,y:n,y:y}", "a3" + order, false);
            due("{i:t,i:t,y:y}", "a3" + order, false);
            due("{*y:y,i:t,t:n}", "a3" + order, true);
            due("{*i:y,i:n,t:n}", "a3" + order, false);
        }
        due("{i:t}", "a1 00 60", true);
        due("{i:t}", "a1 60 00", false);
        due("{i:t}", "82 00 60", false);
        due("{+i:i,+i:t,+t:y}", "a2 00 00 00 60", false);
    }

    /**
     * "no member before it has just an integer (one, and not between ( )) or a "text" as its alternative, and that
     * matches the key": the pair 1: 0, or "a": 0, is kept from *y:y or is not.
     */
    private static void keptKeys() {
        String[] keeping = {"1", "01", "0001"};
        String[] free = {"(1)", "((1))", "1..1", "0..1", "(1/2)", "i", "y", "B", "2", "-1", "0", "\"1\"", "[1]", "#1(1)"};
        for (String often : OFTENS) {
            boolean needed = often.isEmpty() || often.equals("+");
            for (String key : keeping) {
                keptKey(often + key, "a1 01 00", false);
                keptKey(often + key, "a2 01 60 02 00", true);
                keptKey(often + key, "a2 01 60 01 60", often.equals("*") || often.equals("+"));
            }
            for (String key : free) {
                keptKey(often + key, "a1 01 00", !needed);
            }
            keptKey(often + "\"a\"", "a1 61 61 00", false);
            keptKey(often + "\"\"", "a1 60 00", false);
            keptKey(often + "\"\"", "a1 61 61 00", !needed);
            keptKey(often + "(\"a\")", "a1 61 61 00", !needed);
            keptKey(often + "\"a\"", "a1 61 62 00", !needed);
            keptKey(often + "\"a\"", "a1 41 61 00", !needed);
        }
        due("{*y:y,?1:t}", "a1 01 00", true);
        due("{?i:t,?1:t,?1:y}", "a1 01 00", false);
        due("{?2:t,?1:t,?y:y}", "a1 01 00", false);
        due("{?2:t,?3:t,?y:y}", "a1 01 00", true);
        due("{?1:t,?2:t,*y:y}", "a3 01 60 02 60 03 00", true);
        due("{?1:t,?2:t,*y:y}", "a3 01 60 02 00 03 00", false);
    }

    private static void keptKey(String key, String item, boolean want) {
        String type = "{" + key + ":t,*y:y}";
        Due d = new Due().rules(type, "1").bytes(item);
        Due.due(type + " matches " + item, want, () -> d.x.matches(0));
    }

    /** H's second alternative meets what lies in two tags 9 at level 25 - r, when r is the rule that is asked. */
    private static void levels(String type, String item, int lowest, int highest) {
        Due d = new Due().rules("B", "C", "D", "E", "F", "G", "H", "#9(A)/" + type).bytes("c9 c9" + item);
        for (int level = 18; level <= 25; level++) {
            int rule = 25 - level;
            boolean want = level >= lowest && level <= highest;
            Due.due(type + " at level " + level + " matches " + item, want, () -> d.x.matches(rule));
        }
    }

    private static void level(String type, String item, int highest) {
        levels(type, item, 0, highest);
    }

    /**
     * "for a letter the rule's type is matched at one level more, so are an array's item with an entry's type, a key
     * with an alternative and a value with a type, and a tag's content. At a level above 20 nothing matches."
     */
    private static void levelsOfSteps() {
        level("i", "00", 20);
        level("s/t", "60", 20);
        level("n/b", "f4", 20);
        level("((i))", "00", 20);
        level("[y]", "81 00", 19);
        level("[*y]", "81 00", 19);
        level("([(y)])", "81 00", 19);
        level("[n,i]", "82 f6 00", 19);
        level("[[y]]", "81 81 00", 18);
        level("{y:y}", "a1 00 00", 19);
        level("{*y:y}", "a1 00 00", 19);
        level("{y:[y]}", "a1 00 81 00", 18);
        level("{[y]:y}", "a1 81 00 00", 18);
        level("{([y]):y}", "a1 81 00 00", 18);
        level("#1(y)", "c1 00", 19);
        level("#1((y))", "c1 00", 19);
        level("#1(#2(y))", "c1 c2 00", 18);
        level("{1:#2(y)}", "a1 01 c2 00", 18);
    }

    /** Nothing in it is matched, so an empty one matches at the last level; and what is too deep is left to others. */
    private static void levelsOfEmptyOnes() {
        level("[]", "80", 20);
        level("[*y]", "80", 20);
        level("[?y,*y]", "80", 20);
        level("{}", "a0", 20);
        level("{*y:y}", "a0", 20);
        level("{?y:y,*y:y}", "a0", 20);
        level("[[]]", "81 80", 19);
        level("{i:{}}", "a1 00 a0", 19);
        level("[[i]]/[[i]/y]", "81 81 00", 19);
        levels("[*[y],y]", "81 81 00", 19, 19);
        levels("[?#1(y),#1(y)/y]", "81 c1 00", 19, 19);
        level("{?[i]:n,?y:y}", "a1 81 00 00", 19);
    }

    /** What was found for a rule and an item holds for these alone, and for the level at which they met. */
    private static void sameItemAgain() {
        new Due().rules("{?C:n,?B:t,?C:y}", "C", "i").matches(0, "a1 00 00", true);
        new Due().rules("{?B:n,?C:t,?B:y}", "C", "i").matches(0, "a1 00 00", true).matches(0, "a1 60 00", false);
        new Due().rules("[?C,B,B]", "i", "t").matches(0, "82 00 00", true).matches(0, "83 60 00 00", true);
        new Due().rules("[?B,C,C]", "t", "i").matches(0, "82 00 00", true).matches(0, "82 00 60", false);
    }

    /** The last of 24 items can be matched, and nothing behind it is. */
    private static void allItems() {
        String integers = "97" + "00".repeat(23);
        String textLast = "97" + "00".repeat(22) + "60";
        Due.type("[*i]", integers, textLast);
        Due.type("[*i,t]", textLast, integers);
        Due.type("[*i,?t]", integers + "," + textLast, "");
        String pairs = "c1 ab" + "00".repeat(22);
        String pairLast = "c1 ab" + "00".repeat(21) + "60";
        Due.type("#1({*i:i})", pairs, pairLast);
        Due.type("#1({+i:i,i:t})", pairLast, pairs);
        Due.type("[[*i]]", "81 96" + "00".repeat(22), "81 96" + "00".repeat(21) + "60");
    }

    /** At level 20 the last letter is met, at level 21 one too many; ( ) round a letter does not count. */
    private static void levelsOfLetters() {
        for (String letter : new String[] {"A", "(A)", "((A))"}) {
            Due d = new Due().rules("B", "(C)", "D", "((E))", "F", "G", "H", "i/#9(" + letter + ")");
            d.matches(5, "c9 c9 00", true).matches(4, "c9 c9 00", false);
            d.matches(0, "c9 00", true).matches(7, "c9 c9 c9 00", false);
        }
        for (String[] way : new String[][] {{"[A]", "81 81 00"}, {"{1:A}", "a1 01 a1 01 00"}, {"{A:i}", "a1 a1 00 01 01"}}) {
            Due d = new Due().rules("B", "C", "D", "E", "F", "G", "H", "i/" + way[0]);
            d.matches(5, way[1], true).matches(4, way[1], false);
        }
    }

    public static void main(String[] args) {
        integers();
        largeIntegers();
        ranges();
        simples();
        texts();
        tags();
        entries();
        placesInArrays();
        members();
        pairs();
        keptKeys();
        levelsOfSteps();
        levelsOfEmptyOnes();
        levelsOfLetters();
        sameItemAgain();
        allItems();
        Due.end();
    }
}
