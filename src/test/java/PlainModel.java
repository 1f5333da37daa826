import java.util.ArrayList;
import java.util.List;
import java.util.TreeSet;

/**
 * The document's terms once more, in another way, so that a slip in the program shows: texts are cut where a sign
 * stands outside all brackets and matched as they are, and the pairs of a map are given away by trying.
 */
final class PlainModel {
    /** Thrown when trying takes too long: then nothing is said. */
    static final class TooLong extends RuntimeException {
        private static final long serialVersionUID = 1;
    }

    record Item(int major, long number, String characters, List<Item> parts) {
    }

    record Part(char often, String key, String type) {
    }

    final String[] rules = new String[8];
    private int steps;

    // ---- texts

    /** The alternatives of a TYPE as texts, or null if the text is no TYPE that lies in so many brackets. */
    static List<String> alternatives(String text, int deep) {
        List<String> pieces = split(text, '/');
        if (pieces == null) {
            return null;
        }
        for (String piece : pieces) {
            if (!isAlternative(piece, deep)) {
                return null;
            }
        }
        return pieces;
    }

    /** Cuts a text where a sign stands outside all brackets and quotes; null if brackets are not in pairs. */
    private static List<String> split(String text, char sign) {
        List<String> pieces = new ArrayList<>();
        StringBuilder open = new StringBuilder();
        boolean quoted = false;
        int from = 0;
        for (int i = 0; i < text.length(); i++) {
            char c = text.charAt(i);
            if (c == '"') {
                quoted = !quoted;
            } else if (quoted) {
                continue;
            } else if ("([{".indexOf(c) >= 0) {
                open.append(")]}".charAt("([{".indexOf(c)));
            } else if (")]}".indexOf(c) >= 0) {
                if (open.length() == 0 || open.charAt(open.length() - 1) != c) {
                    return null;
                }
                open.setLength(open.length() - 1);
            } else if (c == sign && open.length() == 0) {
                pieces.add(text.substring(from, i));
                from = i + 1;
            }
        }
        pieces.add(text.substring(from));
        return quoted || open.length() > 0 ? null : pieces;
    }

    private static boolean isAlternative(String text, int deep) {
        if (text.matches("[istbnyA-H]|-?[0-9]{1,4}(\\.\\.-?[0-9]{1,4})?|\"[^\"]*\"")) {
            return true;
        }
        if (deep == 4 || text.length() < 2) {
            return false;
        }
        String inner = text.substring(1, text.length() - 1);
        if (text.startsWith("(") && text.endsWith(")")) {
            return alternatives(inner, deep + 1) != null;
        }
        if (text.matches("#[0-9]\\(.*\\)")) {
            return alternatives(text.substring(3, text.length() - 1), deep + 1) != null;
        }
        if (text.startsWith("[") && text.endsWith("]")) {
            return parts(inner, false, deep + 1) != null;
        }
        return text.startsWith("{") && text.endsWith("}") && parts(inner, true, deep + 1) != null;
    }

    static List<Part> parts(String text, boolean map, int deep) {
        List<Part> parts = new ArrayList<>();
        if (text.isEmpty()) {
            return parts;
        }
        List<String> pieces = split(text, ',');
        if (pieces == null || pieces.size() > 6) {
            return null;
        }
        for (String piece : pieces) {
            boolean often = piece.matches("[?*+].*");
            String rest = often ? piece.substring(1) : piece;
            List<String> sides = map ? split(rest, ':') : List.of("y", rest);
            if (sides == null || sides.size() != 2 || !isAlternative(sides.get(0), deep)
                    || alternatives(sides.get(1), deep) == null) {
                return null;
            }
            parts.add(new Part(often ? piece.charAt(0) : ' ', sides.get(0), sides.get(1)));
        }
        return parts;
    }

    /** The alternatives of a TYPE, those between ( ) instead of the one that ( ) is. */
    static List<String> flat(String type) {
        List<String> flat = new ArrayList<>();
        for (String piece : split(type, '/')) {
            if (piece.startsWith("(")) {
                flat.addAll(flat(piece.substring(1, piece.length() - 1)));
            } else {
                flat.add(piece);
            }
        }
        return flat;
    }

    private static boolean isLetter(String alternative) {
        return alternative.matches("[A-H]");
    }

    /** How many alternatives a text has, or -1 when it is no TYPE. */
    static int count(String text) {
        if (alternatives(text, 0) == null) {
            return -1;
        }
        List<String> flat = flat(text);
        long letters = flat.stream().filter(PlainModel::isLetter).count();
        return letters == flat.stream().filter(PlainModel::isLetter).distinct().count() ? flat.size() : -1;
    }

    // ---- rules

    private TreeSet<Integer> leads(int rule, boolean barely) {
        TreeSet<Integer> found = new TreeSet<>();
        if (rules[rule] != null) {
            String letters = barely ? String.join("", flat(rules[rule]).stream().filter(PlainModel::isLetter).toList())
                    : rules[rule].replaceAll("\"[^\"]*\"", "");
            letters.chars().filter(c -> c >= 'A' && c <= 'H').forEach(c -> found.add(c - 'A'));
        }
        return found;
    }

    private TreeSet<Integer> allLed(int rule, boolean barely) {
        TreeSet<Integer> found = leads(rule, barely);
        for (int before = -1; before != found.size(); ) {
            before = found.size();
            for (int each : found.toArray(new Integer[0])) {
                found.addAll(leads(each, barely));
            }
        }
        return found;
    }

    Object check(int rule) {
        TreeSet<Integer> found = allLed(rule, false);
        found.add(rule);
        if (found.stream().anyMatch(r -> rules[r] == null)) {
            return Due.MISSING;
        }
        return found.stream().anyMatch(r -> allLed(r, true).contains(r)) ? Due.STATE : (Object) found.size();
    }

    // ---- items

    /** The items in their order, or null when the bytes are not well formed. */
    static List<Item> read(int[] bytes) {
        List<Item> all = new ArrayList<>();
        int end = read(bytes, 0, 1, all);
        return end == bytes.length && all.size() <= 24 ? all : null;
    }

    /** The place behind the item, or a place that is no one's when it is not well formed. */
    private static int read(int[] bytes, int at, int depth, List<Item> all) {
        int bad = 1000;
        if (at >= bytes.length || depth > 6) {
            return bad;
        }
        int major = bytes[at] / 32;
        int info = bytes[at] % 32;
        int size = info < 24 ? 0 : info == 24 ? 1 : info == 25 ? 2 : info == 26 ? 4 : bad;
        if (at + size >= bytes.length || major == 7 && (info < 20 || info > 22)) {
            return bad;
        }
        long number = size == 0 ? info : 0;
        for (int i = 1; i <= size; i++) {
            number = number << 8 | bytes[at + i];
        }
        int place = at + 1 + size;
        StringBuilder characters = new StringBuilder();
        List<Item> parts = new ArrayList<>();
        all.add(new Item(major, number, "", parts));
        int own = all.size() - 1;
        for (long i = 0; (major == 2 || major == 3) && i < number; i++, place++) {
            if (place >= bytes.length || major == 3 && (bytes[place] < 32 || bytes[place] > 126)) {
                return bad;
            }
            characters.append((char) bytes[place]);
        }
        long many = major == 4 ? number : major == 5 ? number * 2 : major == 6 ? 1 : 0;
        for (long i = 0; i < many; i++) {
            int mine = all.size();
            place = read(bytes, place, depth + 1, all);
            if (place == bad) {
                return bad;
            }
            parts.add(all.get(mine));
        }
        all.set(own, new Item(major, number, characters.toString(), parts));
        return place;
    }

    // ---- matching

    boolean matches(int rule, Item item) {
        steps = 0;
        return type(rules[rule], item, 0);
    }

    private boolean type(String text, Item item, int level) {
        if (++steps > 200000) {
            throw new TooLong();
        }
        return level <= 20 && split(text, '/').stream().anyMatch(a -> alternative(a, item, level));
    }

    private boolean alternative(String a, Item item, int level) {
        String inner = a.substring(Math.min(1, a.length()), Math.max(1, a.length() - 1));
        switch (a.charAt(0)) {
            case 'i':
                return item.major < 2;
            case 's':
                return item.major == 2;
            case 't':
                return item.major == 3;
            case 'b':
                return item.major == 7 && item.number < 22;
            case 'n':
                return item.major == 7 && item.number == 22;
            case 'y':
                return true;
            case '"':
                return item.major == 3 && item.characters.equals(inner);
            case '(':
                return type(inner, item, level);
            case '#':
                return item.major == 6 && item.number == a.charAt(1) - '0'
                        && type(a.substring(3, a.length() - 1), item.parts.get(0), level + 1);
            case '[':
                return item.major == 4 && array(parts(inner, false, 0), item.parts, level + 1);
            case '{':
                return item.major == 5 && map(parts(inner, true, 0), item.parts, new int[6], 0, level + 1);
            default:
                return isLetter(a) ? type(rules[a.charAt(0) - 'A'], item, level + 1) : integer(a, item);
        }
    }

    private static boolean integer(String a, Item item) {
        String[] ends = a.split("\\.\\.");
        long value = item.major == 0 ? item.number : -1 - item.number;
        return item.major < 2 && value >= Integer.parseInt(ends[0]) && value <= Integer.parseInt(ends[ends.length - 1]);
    }

    private boolean array(List<Part> entries, List<Item> items, int level) {
        int at = 0;
        for (Part entry : entries) {
            int taken = 0;
            boolean many = entry.often == '*' || entry.often == '+';
            while (at < items.size() && (many || taken == 0) && type(entry.type, items.get(at), level)) {
                at++;
                taken++;
            }
            if (taken == 0 && (entry.often == ' ' || entry.often == '+')) {
                return false;
            }
        }
        return at == items.size();
    }

    private boolean map(List<Part> members, List<Item> items, int[] got, int at, int level) {
        if (at == items.size()) {
            for (int m = 0; m < members.size(); m++) {
                char often = members.get(m).often;
                if (got[m] == 0 && (often == ' ' || often == '+') || got[m] > 1 && (often == ' ' || often == '?')) {
                    return false;
                }
            }
            return true;
        }
        for (int m = 0; m < members.size(); m++) {
            if (may(members, m, items.get(at), items.get(at + 1), level)) {
                got[m]++;
                boolean done = map(members, items, got, at + 2, level);
                got[m]--;
                if (done) {
                    return true;
                }
            }
        }
        return false;
    }

    private boolean may(List<Part> members, int m, Item key, Item value, int level) {
        for (Part before : members.subList(0, m)) {
            if (before.key.matches("-?[0-9]+|\".*\"") && type(before.key, key, level)) {
                return false;
            }
        }
        return type(members.get(m).key, key, level) && type(members.get(m).type, value, level);
    }
}
