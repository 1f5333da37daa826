import java.util.ArrayList;
import java.util.Arrays;
import java.util.List;

/** Every small text, every few bytes and every small array and map, compared with the plain model: none is left out. */
public final class EverySmallCaseTest {
    /** A sign of each kind that the grammar knows; the others of a kind go the same ways. */
    private static final String SIGNS = "iA1-.\"[](){}:,/#?";
    private static final int[] BYTES = {0x00, 0x17, 0x18, 0x19, 0x1b, 0x20, 0x41, 0x61, 0x80, 0x81, 0x82, 0xa1, 0xc1, 0xf6};
    private static final String[] OFTENS = {"", "?", "*", "+"};

    private static void texts(String before, int more) {
        int count = PlainModel.count(before);
        new Due().rule(0, before, count < 0 ? Due.ARGUMENT : (Object) count);
        for (int i = 0; more > 0 && i < SIGNS.length(); i++) {
            texts(before + SIGNS.charAt(i), more - 1);
        }
    }

    private static String hex(int[] bytes) {
        StringBuilder hex = new StringBuilder();
        for (int b : bytes) {
            hex.append(String.format("%02x ", b));
        }
        return hex.toString();
    }

    private static void sameItems(int[] bytes) {
        ShapedItems x = new ShapedItems();
        for (int b : bytes) {
            x.feed(b, 1);
        }
        List<PlainModel.Item> items = PlainModel.read(bytes);
        Object want = items == null ? Due.ARGUMENT : (Object) items.size();
        Due.due("items() of " + Arrays.toString(bytes), want, () -> x.items());
        for (int i = 0; items != null && i < items.size(); i++) {
            int k = i;
            Due.due("major(" + k + ") of " + Arrays.toString(bytes), items.get(k).major(), () -> x.major(k));
            Due.due("number(" + k + ") of " + Arrays.toString(bytes), items.get(k).number(), () -> x.number(k));
        }
    }

    private static void bytes(int[] before, int more, int[] choice) {
        sameItems(before);
        for (int i = 0; more > 0 && i < choice.length; i++) {
            bytes(joined(before, choice[i]), more - 1, choice);
        }
    }

    private static int[] joined(int[] before, int... behind) {
        int[] joined = Arrays.copyOf(before, before.length + behind.length);
        System.arraycopy(behind, 0, joined, before.length, behind.length);
        return joined;
    }

    /** All arrays or maps of up to so many of these parts, as bytes. */
    private static List<int[]> wholes(int head, int most, int[][] parts) {
        List<int[]> wholes = new ArrayList<>();
        List<int[]> insides = List.of(new int[0]);
        for (int count = 0; count <= most; count++) {
            List<int[]> longer = new ArrayList<>();
            for (int[] inside : insides) {
                wholes.add(joined(new int[] {head + count}, inside));
                for (int[] part : parts) {
                    longer.add(joined(inside, part));
                }
            }
            insides = longer;
        }
        return wholes;
    }

    private static void sameMatches(String type, List<int[]> wholes) {
        Due d = new Due().rules(type);
        PlainModel model = new PlainModel();
        model.rules[0] = type;
        for (int[] whole : wholes) {
            d.bytes(hex(whole));
            boolean want = model.matches(0, PlainModel.read(whole).get(0));
            Due.due(type + " matches " + hex(whole), want, () -> d.x.matches(0));
        }
    }

    private static List<String> withOftens(String... texts) {
        List<String> all = new ArrayList<>();
        for (String text : texts) {
            for (String often : OFTENS) {
                all.add(often + text);
            }
        }
        return all;
    }

    private static void arrays() {
        List<int[]> wholes = wholes(0x80, 3, new int[][] {{0x01}, {0x02}, {0x60}});
        List<String> entries = withOftens("i", "1", "t", "1/t");
        for (String first : entries) {
            sameMatches("[" + first + "]", wholes);
            for (String second : entries) {
                sameMatches("[" + first + "," + second + "]", wholes);
                sameMatches("[" + first + "," + second + ",y]", wholes);
                sameMatches("[*2," + first + "," + second + "]", wholes);
            }
        }
    }

    private static void maps() {
        List<int[]> wholes = wholes(0xa0, 2, new int[][] {{0x01, 0x00}, {0x01, 0x60}, {0x02, 0x00}, {0x61, 0x61, 0x60}});
        List<String> members = withOftens("1:i", "(1):i", "1..1:i", "\"a\":i", "(\"a\"):i", "i:t", "y:y");
        for (String first : members) {
            sameMatches("{" + first + "}", wholes);
            for (String second : members) {
                sameMatches("{" + first + "," + second + "}", wholes);
                sameMatches("{" + first + "," + second + ",?y:y}", wholes);
            }
        }
    }

    public static void main(String[] args) {
        texts("", 4);
        int[] all = new int[256];
        for (int b = 0; b < 256; b++) {
            all[b] = b;
        }
        bytes(new int[0], 2, all);
        bytes(new int[0], 4, BYTES);
        arrays();
        maps();
        Due.end();
    }
}
