/** Promises 7 to 10, and what an item is. */
public final class ItemsTest {
    private static void parts(String hex, String majors, String numbers, String depths) {
        Due d = new Due().bytes(hex);
        int count = majors.split(" ").length;
        Due.due("items() of " + hex, count, () -> d.x.items());
        for (int i = 0; i < count; i++) {
            int k = i;
            Due.due("major(" + k + ") of " + hex, majors.split(" ")[k], () -> d.x.major(k));
            Due.due("number(" + k + ") of " + hex, numbers.split(" ")[k], () -> d.x.number(k));
            Due.due("depth(" + k + ") of " + hex, depths.split(" ")[k], () -> d.x.depth(k));
        }
        for (int k : new int[] {-1, count, 24, Integer.MIN_VALUE, Integer.MAX_VALUE}) {
            Due.due("major(" + k + ") of " + hex, Due.INDEX, () -> d.x.major(k));
            Due.due("number(" + k + ") of " + hex, Due.INDEX, () -> d.x.number(k));
            Due.due("depth(" + k + ") of " + hex, Due.INDEX, () -> d.x.depth(k));
        }
    }

    private static void numbers() {
        parts("00", "0", "0", "1");
        parts("17", "0", "23", "1");
        parts("18 00", "0", "0", "1");
        parts("18 ff", "0", "255", "1");
        parts("19 01 02", "0", "258", "1");
        parts("19 ff ff", "0", "65535", "1");
        parts("1a 01 02 03 04", "0", "16909060", "1");
        parts("1a 80 00 00 00", "0", "2147483648", "1");
        parts("3a ff ff ff ff", "1", "4294967295", "1");
        parts("37", "1", "23", "1");
        Due.notWellFormed("18", "19", "19 01", "1a", "1a 01 02 03", "1b 00 00 00 00 00 00 00 01", "1c", "1d", "1e", "1f", "3b", "3c",
                "5f 40 ff", "9f ff", "bf ff", "", "00 00", "17 00");
    }

    private static void stringsAndTexts() {
        parts("40", "2", "0", "1");
        parts("43 00 ff 80", "2", "3", "1");
        parts("58 01 07", "2", "1", "1");
        parts("60", "3", "0", "1");
        parts("62 20 7e", "3", "2", "1");
        parts("79 00 01 61", "3", "1", "1");
        Due.wellFormed(1, "4c 000102030405060708090a1f", "6a 61626364656667687e20", "7a 00 00 00 00", "5a 00 00 00 01 ff");
        Due.notWellFormed("41", "43 00 00", "61", "62 61", "61 1f", "61 7f", "61 80", "61 ff", "62 61 0a", "62 0a 61", "5a ff ff ff ff 00",
                "7a 80 00 00 00 61", "41 00 00", "60 60", "5a 80 00 00 01 00");
    }

    private static void simples() {
        parts("f4", "7", "20", "1");
        parts("f5", "7", "21", "1");
        parts("f6", "7", "22", "1");
        Due.notWellFormed("e0", "f3", "f7", "f8 14", "f8 15", "f8 20", "f9 00 14", "fa 00 00 00 14", "fb 00 00 00 00 00 00 00 00",
                "ff", "fc");
    }

    private static void nested() {
        parts("80", "4", "0", "1");
        parts("a0", "5", "0", "1");
        parts("c1 f6", "6 7", "1 22", "1 2");
        parts("da ff ff ff ff 00", "6 0", "4294967295 0", "1 2");
        parts("82 01 20", "4 0 1", "2 1 0", "1 2 2");
        parts("a1 01 82 02 03", "5 0 4 0 0", "1 1 2 2 3", "1 2 2 3 3");
        parts("82 81 00 d8 20 a1 80 41 ff", "4 4 0 6 5 4 2", "2 1 0 32 1 0 1", "1 2 3 2 3 4 4");
        parts("98 01 05", "4 0", "1 5", "1 2");
        Due.notWellFormed("81", "82 01", "81 01 02", "a1", "a1 01", "a1 01 02 03", "c1", "c1 01 02", "db 00", "9a ff ff ff ff 00",
                "ba 80 00 00 00", "ba ff ff ff ff 00", "ba 80 00 00 01 01 01", "9a 80 00 00 00", "9a 00 00 00 02 00");
    }

    private static void limits() {
        Due.wellFormed(6, "81 81 81 81 81 00", "c1 c1 c1 c1 c1 00", "81 81 81 81 81 80", "81 81 81 81 81 a0");
        Due.notWellFormed("81 81 81 81 81 81 00", "c1 c1 c1 c1 c1 c1 00", "81 81 81 81 81 81 80", "81 81 81 81 81 c1 00");
        Due.wellFormed(11, "a1 a1 a1 a1 a1 00 00 00 00 00 00");
        Due.notWellFormed("a1 a1 a1 a1 a1 a1 00 00 00 00 00 00 00", "a1 00 81 81 81 81 81 00", "81 81 81 81 81 a1 00 00");
        Due.wellFormed(24, "97" + "00".repeat(23), "98 17" + "00".repeat(23), "82 80 95" + "00".repeat(21));
        Due.wellFormed(23, "ab" + "00".repeat(22));
        Due.wellFormed(24, "c1 ab" + "00".repeat(22));
        Due.notWellFormed("98 18" + "00".repeat(24), "ac" + "00".repeat(24), "82 80 96" + "00".repeat(22), "c1 81 ab" + "00".repeat(22),
                "97" + "00".repeat(24), "97" + "00".repeat(22));
        Due.wellFormed(1, "58 26" + "00".repeat(38), "78 26" + "20".repeat(38));
        Due.notWellFormed("58 27" + "00".repeat(38));
    }

    private static void change() {
        Due d = new Due().bytes("81");
        Due.due("items()", Due.ARGUMENT, () -> d.x.items());
        d.x.feed(5, 1);
        Due.due("items()", 2, () -> d.x.items());
        d.x.feed(5, 1);
        Due.due("items()", Due.ARGUMENT, () -> d.x.items());
        d.items("f4", 1).items("82 00 00", 3).items("81 00", 2);
        Due.due("major(2)", Due.INDEX, () -> d.x.major(2));
    }

    public static void main(String[] args) {
        numbers();
        stringsAndTexts();
        simples();
        nested();
        limits();
        change();
        Due.end();
    }
}
