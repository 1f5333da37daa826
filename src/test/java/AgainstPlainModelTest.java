import java.util.ArrayList;
import java.util.Arrays;
import java.util.Collections;
import java.util.List;
import java.util.Random;

/** Long runs of made up calls, the same each time, whose answers are compared with those of the plain model. */
public final class AgainstPlainModelTest {
    private static final String SIGNS = "istbnyABCDEFGH0123456789-.\"#()[]{}/,:?*+x ";

    private final Random random;
    private final Due d = new Due();
    private final PlainModel model = new PlainModel();
    private int letters;
    private static int said = 0;
    private static int matched = 0;
    private static int good = 0;

    private AgainstPlainModelTest(long seed) {
        random = new Random(seed);
        letters = 1 + random.nextInt(8);
    }

    private <T> T one(List<T> list) {
        return list.get(random.nextInt(list.size()));
    }

    private String integer() {
        return (random.nextInt(4) == 0 ? "-" : "") + random.nextInt(random.nextInt(9) == 0 ? 12000 : 4);
    }

    private String alternative(int size) {
        switch (random.nextInt(size > 0 ? 14 : 8)) {
            case 0:
                return integer();
            case 1:
                return integer() + ".." + integer();
            case 2:
                return "\"" + one(List.of("", "a", "ab", "A", "/", "]")) + "\"";
            case 3:
            case 4:
                return String.valueOf((char) ('A' + random.nextInt(letters)));
            case 8:
                return "(" + type(size - 1) + ")";
            case 9:
                return "#" + random.nextInt(3) + "(" + type(size - 1) + ")";
            case 10:
            case 11:
                return "[" + parts(size - 1, false) + "]";
            case 12:
            case 13:
                return "{" + parts(size - 1, true) + "}";
            default:
                return one(List.of("i", "s", "t", "b", "n", "y", "i", "y"));
        }
    }

    private String type(int size) {
        String text = alternative(size);
        while (random.nextInt(4) == 0) {
            text += "/" + alternative(size);
        }
        return text;
    }

    private String parts(int size, boolean map) {
        StringBuilder text = new StringBuilder();
        int count = random.nextInt(random.nextInt(3) == 0 ? 8 : 4);
        for (int i = 0; i < count; i++) {
            text.append(i == 0 ? "" : ",").append(one(List.of("", "", "?", "*", "+")));
            text.append(map ? alternative(size) + ":" : "").append(type(size));
        }
        return text.toString();
    }

    private String text() {
        String text = type(1 + random.nextInt(4));
        for (int tries = 0; text.length() > 40 && tries < 20; tries++) {
            text = type(1 + random.nextInt(3));
        }
        if (random.nextInt(5) == 0) {
            int at = random.nextInt(text.length() + 1);
            char c = SIGNS.charAt(random.nextInt(SIGNS.length()));
            int to = random.nextBoolean() ? at : Math.min(text.length(), at + 1);
            text = text.substring(0, at) + (random.nextInt(4) == 0 ? "" : c) + text.substring(to);
        }
        return text.length() > 40 ? text.substring(0, 40) : text;
    }

    private void item(List<Integer> bytes, int depth) {
        int kind = random.nextInt(depth > 5 ? 8 : 16);
        int few = random.nextInt(4);
        if (kind < 3) {
            head(bytes, kind == 2 ? 1 : 0, random.nextInt(3) == 0 ? random.nextInt(12000) : few);
        } else if (kind < 5) {
            bytes.addAll(one(List.of(List.of(0x61, 0x61), List.of(0x60), List.of(0x62, 0x61, 0x62), List.of(0x61, 0x41))));
        } else if (kind == 5) {
            bytes.addAll(one(List.of(List.of(0x40), List.of(0x41, 0), List.of(0x42, 0x61, 0xff))));
        } else if (kind < 8) {
            bytes.add(0xf4 + random.nextInt(3));
        } else if (kind < 11) {
            head(bytes, 4, few);
            for (int i = 0; i < few; i++) {
                item(bytes, depth + 1);
            }
        } else if (kind < 14) {
            head(bytes, 5, few);
            for (int i = 0; i < 2 * few; i++) {
                item(bytes, depth + 1);
            }
        } else {
            head(bytes, 6, random.nextInt(3));
            item(bytes, depth + 1);
        }
    }

    private void head(List<Integer> bytes, int major, long number) {
        int info = number > 65535 ? 26 : number > 255 ? 25 : number > 23 ? 24 : -1;
        if (info < 0 && random.nextInt(12) == 0 || info > 0 && info < 26 && random.nextInt(6) == 0) {
            info = Math.max(info, 24) + random.nextInt(info > 24 ? 2 : 3);
        }
        bytes.add(major * 32 + (info < 0 ? (int) number : info));
        for (int i = info < 0 ? 0 : 1 << (info - 24); i > 0; i--) {
            bytes.add((int) (number >> 8 * (i - 1)) & 255);
        }
    }

    /** Puts an item behind the bytes that is likely to match a TYPE. */
    private void itemFor(String type, List<Integer> bytes, int depth) {
        String a = one(PlainModel.flat(type));
        String inner = a.substring(1, Math.max(1, a.length() - 1));
        if (depth > 6 || a.equals("y") || random.nextInt(20) == 0) {
            item(bytes, depth);
        } else if (a.matches("-?[0-9].*")) {
            String[] ends = a.split("\\.\\.");
            int value = Integer.parseInt(ends[random.nextInt(ends.length)]) + (random.nextInt(8) == 0 ? 1 : 0);
            head(bytes, value < 0 ? 1 : 0, value < 0 ? -1 - value : value);
        } else if (a.startsWith("\"")) {
            head(bytes, 3, inner.length());
            inner.chars().forEach(bytes::add);
        } else if (a.startsWith("#")) {
            head(bytes, 6, a.charAt(1) - '0');
            itemFor(a.substring(3, a.length() - 1), bytes, depth + 1);
        } else if (a.startsWith("[") || a.startsWith("{")) {
            partsFor(PlainModel.parts(inner, a.startsWith("{"), 0), a.startsWith("{"), bytes, depth + 1);
        } else if (a.matches("[A-H]")) {
            String rule = model.rules[a.charAt(0) - 'A'];
            itemFor(rule == null || random.nextInt(30) == 0 ? "y" : rule, bytes, depth);
        } else {
            bytes.add(one(a.equals("i") ? List.of(0, 1, 32) : a.equals("s") ? List.of(0x40) : a.equals("t") ? List.of(0x60)
                    : a.equals("b") ? List.of(0xf4, 0xf5) : List.of(0xf6)));
        }
    }

    private void partsFor(List<PlainModel.Part> parts, boolean map, List<Integer> bytes, int depth) {
        List<List<Integer>> made = new ArrayList<>();
        for (PlainModel.Part part : parts) {
            int least = part.often() == '?' || part.often() == '*' ? 0 : 1;
            int most = part.often() == '*' || part.often() == '+' ? 3 : 1;
            int many = random.nextInt(12) == 0 ? random.nextInt(3) : least + random.nextInt(most - least + 1);
            for (int i = 0; i < many; i++) {
                List<Integer> one = new ArrayList<>();
                if (map) {
                    itemFor(part.key(), one, depth);
                }
                itemFor(part.type(), one, depth);
                made.add(one);
            }
        }
        if (map) {
            Collections.shuffle(made, random);
        }
        head(bytes, map ? 5 : 4, made.size());
        made.forEach(bytes::addAll);
    }

    private void anyItem(List<Integer> bytes) {
        String rule = model.rules[random.nextInt(letters)];
        bytes.clear();
        if (rule == null || random.nextInt(4) == 0 || !(model.check(Arrays.asList(model.rules).indexOf(rule)) instanceof Integer)) {
            item(bytes, 1);
        } else {
            itemFor(rule, bytes, 1);
        }
    }

    private int[] bytes() {
        List<Integer> bytes = new ArrayList<>();
        anyItem(bytes);
        for (int tries = 0; (bytes.size() > 40 || tries < 4 && bytes.size() < 4) && tries < 20; tries++) {
            anyItem(bytes);
        }
        if (random.nextInt(8) == 0) {
            bytes.set(random.nextInt(bytes.size()), random.nextInt(256));
        }
        return bytes.stream().limit(40).mapToInt(b -> b).toArray();
    }

    private void giveRule() {
        String text = text();
        int rule = random.nextInt(letters);
        int count = PlainModel.count(text);
        d.rule(rule, text, count < 0 ? Due.ARGUMENT : (Object) count);
        if (count > 0) {
            good++;
            model.rules[rule] = text;
        }
    }

    private void matchAll() {
        int[] bytes = bytes();
        List<PlainModel.Item> items = PlainModel.read(bytes);
        StringBuilder hex = new StringBuilder();
        for (int b : bytes) {
            hex.append(String.format("%02x ", b));
        }
        d.items(hex.toString(), items == null ? Due.ARGUMENT : (Object) items.size());
        for (int rule = 0; rule < letters; rule++) {
            Object check = model.check(rule);
            d.check(rule, check);
            boolean sound = check instanceof Integer;
            d.matchesAt(rule, items == null ? 0 : items.size(), !sound ? check : items == null ? Due.ARGUMENT : Due.INDEX);
            for (int k = 0; sound && items != null && k < items.size(); k++) {
                matchOne(rule, k, items.get(k), hex.toString());
            }
        }
    }

    private void matchOne(int rule, int k, PlainModel.Item item, String hex) {
        try {
            boolean want = model.matches(rule, item);
            said++;
            matched += want ? 1 : 0;
            Due.due(Arrays.toString(model.rules) + " matchesAt(" + rule + ", " + k + ") of " + hex, want,
                    () -> d.x.matchesAt(rule, k));
        } catch (PlainModel.TooLong e) {
            return;
        }
    }

    private void run() {
        for (int i = 0; i < 12; i++) {
            giveRule();
        }
        for (int i = 0; i < 6; i++) {
            matchAll();
            giveRule();
        }
    }

    public static void main(String[] args) {
        int runs = args.length > 0 ? Integer.parseInt(args[0]) : 1500;
        int first = args.length > 1 ? Integer.parseInt(args[1]) : 0;
        for (int seed = first; seed < first + runs; seed++) {
            new AgainstPlainModelTest(seed).run();
        }
        System.out.println(good + " types, " + said + " items, " + matched + " of them match");
        Due.due("enough was compared", true, () -> matched > 1000 && said - matched > 1000);
        Due.end();
    }
}
