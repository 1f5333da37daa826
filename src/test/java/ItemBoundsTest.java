/** The sentences on items and bytes that name a limit: the last inside it, and the first outside it. */
public final class ItemBoundsTest {
    private static final String[] LEAVES = {"00", "20", "40", "60", "80", "a0", "f4", "f6", "1affffffff"};
    /** What stands before and behind an item that lies one deeper: an array's, a value, a key, a tag's content. */
    private static final String[] BEFORE = {"81", "a100", "a1", "c0"};
    private static final String[] BEHIND = {"", "", "00", ""};
    private static final int[] OWN_ITEMS = {1, 2, 2, 1};

    private static String hex(int value) {
        return String.format("%02x", value);
    }

    private static String head(int major, int info) {
        return hex(32 * major + info);
    }

    private static void is(String bytes, int k, int major, long number, int depth) {
        Due d = new Due().bytes(bytes);
        Due.due("major(" + k + ") of " + bytes, major, () -> d.x.major(k));
        Due.due("number(" + k + ") of " + bytes, number, () -> d.x.number(k));
        Due.due("depth(" + k + ") of " + bytes, depth, () -> d.x.depth(k));
    }

    /** "A NUMBER n follows from INFO: below 24 it is INFO". */
    private static void infoBelow24() {
        String[] bodies = {"", "", "ff", "7e", "00", "0000"};
        for (int n = 0; n < 24; n++) {
            for (int major = 0; major < 6; major++) {
                String bytes = head(major, n) + bodies[major].repeat(n);
                if (major == 5 && n > 11) {
                    Due.notWellFormed(bytes);
                } else {
                    is(bytes, 0, major, n, 1);
                }
            }
            is(head(6, n) + "00", 0, 6, n, 1);
        }
    }

    /** "for 24, 25, 26 it is that of the next one, two, four bytes, the highest first". */
    private static void numbersInBytes() {
        long[][] numbers = {{0, 1, 23, 24, 127, 128, 255}, {0, 1, 255, 256, 258, 32768, 65535},
            {0, 1, 65536, 0x01020304, 0x7fffffff, 0x80000000L, 0xffffffffL}};
        for (int i = 0; i < 3; i++) {
            int size = 1 << i;
            for (long number : numbers[i]) {
                String digits = String.format("%0" + 2 * size + "x", number);
                is(head(0, 24 + i) + digits, 0, 0, number, 1);
                is(head(1, 24 + i) + digits, 0, 1, number, 1);
                is(head(6, 24 + i) + digits + "00", 0, 6, number, 1);
            }
            for (int major = 0; major < 7; major++) {
                String zeros = head(major, 24 + i) + "00".repeat(size);
                Due.wellFormed(major == 6 ? 2 : 1, major == 6 ? zeros + "00" : zeros);
                for (int less = 1; less <= size; less++) {
                    Due.notWellFormed(head(major, 24 + i) + "00".repeat(size - less));
                }
            }
        }
    }

    /** "other INFOs are not well formed". */
    private static void otherInfos() {
        for (int major = 0; major < 7; major++) {
            for (int info = 27; info < 32; info++) {
                for (int more = 0; more < 40; more++) {
                    Due.notWellFormed(head(major, info) + "00".repeat(more));
                }
                Due.notWellFormed("81" + head(major, info), head(major, info) + "ff", head(major, info) + "00ff");
            }
        }
    }

    /** "7: 20 is FALSE, 21 TRUE, 22 NULL; others (for INFO 24 and more, too) are not well formed". */
    private static void simples() {
        for (int info = 0; info < 32; info++) {
            boolean good = info >= 20 && info <= 22;
            if (good) {
                is(head(7, info), 0, 7, info, 1);
                is("82 00" + head(7, info), 2, 7, info, 2);
            }
            for (int more = good ? 1 : 0; more < 10; more++) {
                Due.notWellFormed(head(7, info) + "14".repeat(more), head(7, info) + "00".repeat(more));
            }
        }
        Due.notWellFormed("f8 15", "f9 0015", "fa 00000015", "81 f8 15", "c1 f7", "81 f3");
    }

    /** A string or text of no bytes, of as many as there can be, with one too few and with one too many. */
    private static void lengths(int major, String each) {
        for (int n = 0; n <= 38; n++) {
            String head = n < 24 ? head(major, n) : head(major, 24) + hex(n);
            is(head + each.repeat(n), 0, major, n, 1);
            if (n > 0) {
                Due.notWellFormed(head + each.repeat(n - 1));
            }
            if (n < 38) {
                Due.notWellFormed(head + each.repeat(n + 1));
            }
        }
    }

    /** "2: a STRING of the n bytes that follow". */
    private static void strings() {
        lengths(2, "00");
        for (int b = 0; b < 256; b++) {
            Due.wellFormed(1, "43" + hex(b) + "61" + hex(b));
        }
        Due.notWellFormed("58 27" + "00".repeat(38), "59 0100", "59 ffff 00", "5a 01000000", "5a 01000001 00",
                "5a 7fffffff 00", "5a 80000000", "5a 80000001 00", "5a ffffffff", "5a ffffffff 00");
    }

    /** "3: a TEXT of the n bytes that follow, all 32 .. 126". */
    private static void texts() {
        lengths(3, "20");
        for (int b = 0; b < 256; b++) {
            for (String bytes : new String[] {"61" + hex(b), "63" + hex(b) + "6161", "63 61" + hex(b) + "61",
                "63 6161" + hex(b)}) {
                new Due().items(bytes, b >= 32 && b <= 126 ? 1 : Due.ARGUMENT);
            }
        }
        Due.notWellFormed("7a 80000000", "7a 80000001 61", "7a ffffffff", "7a ffffffff 61", "79 0100");
    }

    /** "4: an ARRAY of the n items that follow. 5: a MAP of n PAIRS, each a key and then a value". */
    private static void arraysAndMaps() {
        for (int n = 0; n < 23; n++) {
            Due.wellFormed(n + 1, head(4, n) + "00".repeat(n), "98" + hex(n) + "f6".repeat(n));
            Due.notWellFormed(head(4, n + 1) + "00".repeat(n), head(4, n) + "00".repeat(n + 1));
        }
        for (int n = 0; n < 11; n++) {
            Due.wellFormed(2 * n + 1, head(5, n) + "0000".repeat(n), "b8" + hex(n) + "60f6".repeat(n));
            Due.notWellFormed(head(5, n + 1) + "00".repeat(2 * n), head(5, n + 1) + "00".repeat(2 * n + 1),
                    head(5, n) + "00".repeat(2 * n + 1), head(5, n) + "00".repeat(2 * n + 2));
        }
        Due.notWellFormed("9a 01000000", "9a 7fffffff 00", "9a 80000000", "9a 80000001 00", "9a ffffffff",
                "ba 7fffffff 00", "ba 80000000", "ba 80000001 0000", "ba ffffffff", "99 0100", "b9 0100", "b9 8000");
    }

    /** "6: a TAG n with the item that follows, its CONTENT". */
    private static void tags() {
        for (String leaf : LEAVES) {
            Due.wellFormed(2, "c0" + leaf, "d7" + leaf, "d8ff" + leaf, "daffffffff" + leaf);
            Due.notWellFormed("c0" + leaf + "00", "c0" + leaf + leaf);
        }
        Due.notWellFormed("c0", "c5", "d8 00", "d9 0000", "da 00000000", "c0 c0", "82 c0 00");
        is("c0 c1 f4", 1, 6, 1, 2);
        is("c0 c1 f4", 2, 7, 20, 3);
    }

    private static void depth(String before, String behind, int items, int steps, int deepest) {
        if (steps < deepest) {
            for (int i = 0; i < BEFORE.length; i++) {
                depth(before + BEFORE[i], BEHIND[i] + behind, items + OWN_ITEMS[i], steps + 1, deepest);
            }
            return;
        }
        for (String leaf : LEAVES) {
            String bytes = before + leaf + behind;
            new Due().items(bytes, steps < 6 ? items + 1 : Due.ARGUMENT);
        }
    }

    /**
     * "The whole item is at DEPTH 1, an array's items, a map's keys and values and a tag's content are one deeper than
     * it; more than 6 is not well formed", on every way.
     */
    private static void depths() {
        for (int deepest = 0; deepest <= 6; deepest++) {
            depth("", "", 0, 0, deepest);
        }
        is("81 a1 00 c0 a1 81 00 00", 0, 4, 1, 1);
        is("81 a1 00 c0 a1 81 00 00", 1, 5, 1, 2);
        is("81 a1 00 c0 a1 81 00 00", 2, 0, 0, 3);
        is("81 a1 00 c0 a1 81 00 00", 3, 6, 0, 3);
        is("81 a1 00 c0 a1 81 00 00", 4, 5, 1, 4);
        is("81 a1 00 c0 a1 81 00 00", 5, 4, 1, 5);
        is("81 a1 00 c0 a1 81 00 00", 6, 0, 0, 6);
        is("81 a1 00 c0 a1 81 00 00", 7, 0, 0, 5);
        Due.notWellFormed("82 00 81 81 81 81 81 00", "82 81 81 81 81 81 00 00", "a1 00 c1 81 81 81 81 00");
    }

    /** "and so are more than 24 items (all in all)". */
    private static void manyItems() {
        Due.wellFormed(24, "97" + "00".repeat(23), "98 17" + "40".repeat(23), "c0 ab" + "00".repeat(22),
                "8c" + "8100".repeat(11) + "80", "82 8a" + "00".repeat(10) + "8b" + "00".repeat(11),
                "97" + "80".repeat(23), "97" + "a0".repeat(23), "86" + "c0c000".repeat(5) + "c1 86" + "00".repeat(6));
        Due.notWellFormed("98 18" + "00".repeat(24), "98 18" + "40".repeat(24), "ac" + "00".repeat(24),
                "c0 c0 ab" + "00".repeat(22), "8c" + "8100".repeat(12), "82 8b" + "00".repeat(11) + "8b" + "00".repeat(11),
                "98 18" + "80".repeat(24), "97" + "80".repeat(22) + "8100", "97" + "00".repeat(22) + "c000",
                "97 8100" + "00".repeat(22), "81 97" + "00".repeat(23));
        is("97" + "00".repeat(22) + "f6", 23, 7, 22, 2);
    }

    /** "THE BYTES, at most 40, are WELL FORMED when they are one item and nothing more". */
    private static void oneItem() {
        Due.notWellFormed("");
        Due.wellFormed(1, "58 26" + "ff".repeat(38), "78 26" + "7e".repeat(38));
        Due.wellFormed(6, "85" + "67 61616161616161".repeat(4) + "66 616161616161");
        for (String leaf : LEAVES) {
            Due.wellFormed(1, leaf);
            for (int b = 0; b < 256; b++) {
                Due.notWellFormed(leaf + hex(b));
            }
        }
        Due.notWellFormed("58 25" + "ff".repeat(38), "85" + "67 61616161616161".repeat(4) + "67 616161616161");
    }

    /** 40 bytes whose last item wants more: there is no 41st byte to look at, whatever stood there. */
    private static void wantingBehindTheLastByte() {
        String[] ends = {"18", "19", "1900", "1a", "1a000000", "1b", "41", "4201", "58", "5801", "61", "6261", "78", "7801",
            "81", "8200", "98", "9801", "a1", "a100", "b8", "b801", "b80100", "c0", "d8", "d801", "c0c0", "f8", "81c1"};
        for (String end : ends) {
            int fill = 37 - end.length() / 2;
            Due.notWellFormed("82 58" + hex(fill) + "00".repeat(fill) + end);
            Due.notWellFormed("a1 78" + hex(fill) + "20".repeat(fill) + end);
        }
        Due.notWellFormed("82 58 25" + "00".repeat(37), "a1 58 25" + "00".repeat(37), "83 00 58 24" + "00".repeat(36));
        Due.wellFormed(3, "82 58 24" + "00".repeat(36) + "00", "a1 78 24" + "20".repeat(36) + "60");
        Due.notWellFormed("82 61 00", "82 62 00 01", "a1 61 1f", "83 61 80 40");
        Due shorter = new Due().items("83 00 00 00", 4).items("83 00 00", Due.ARGUMENT).items("82 19 01", Due.ARGUMENT);
        shorter.items("62 61 61", 1).items("62 61", Due.ARGUMENT).items("c1 00", 2).items("c1", Due.ARGUMENT);
    }

    /** "The items are numbered from 0 in the order of their first bytes". */
    private static void order() {
        String bytes = "83 a2 81 00 c1 01 02 41 ff 82 03 04 61 7e";
        int[] majors = {4, 5, 4, 0, 6, 0, 0, 2, 4, 0, 0, 3};
        int[] numbers = {3, 2, 1, 0, 1, 1, 2, 1, 2, 3, 4, 1};
        int[] depths = {1, 2, 3, 4, 3, 4, 3, 3, 2, 3, 3, 2};
        Due.wellFormed(majors.length, bytes);
        for (int k = 0; k < majors.length; k++) {
            is(bytes, k, majors[k], numbers[k], depths[k]);
        }
    }

    public static void main(String[] args) {
        infoBelow24();
        numbersInBytes();
        otherInfos();
        simples();
        strings();
        texts();
        arraysAndMaps();
        tags();
        depths();
        manyItems();
        oneItem();
        wantingBehindTheLastByte();
        order();
        Due.end();
    }
}
