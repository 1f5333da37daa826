import java.util.Arrays;
import java.util.NoSuchElementException;

/** Items read from bytes, rules of what shape an item is, and whether an item is of that shape. */
public final class ShapedItems {
    public static final int NONE = -1;

    private static final int RULE_COUNT = 8;
    private static final int MOST_CHARACTERS = 40;
    private static final int MOST_BYTES = 40;
    private static final int MOST_ITEMS = 24;
    private static final int DEEPEST_ITEM = 6;
    private static final int DEEPEST_BRACKET = 4;
    private static final int MOST_PARTS = 6;
    private static final int HIGHEST_LEVEL = 20;
    private static final int LOWEST_PRINTED = 32;
    private static final int HIGHEST_PRINTED = 126;

    private final char[] typed = new char[MOST_CHARACTERS];
    private int typedCount;
    private final ItemBytes bytes = new ItemBytes();
    private final RuleBook book = new RuleBook();
    private final ShapeReader reader = new ShapeReader();
    private final Matcher matcher = new Matcher(book, bytes);

    public ShapedItems() {
    }

    public boolean type(int four) throws IllegalArgumentException {
        int count = charactersIn(four);
        if (typedCount + count > MOST_CHARACTERS) {
            return false;
        }
        for (int i = 0; i < count; i++) {
            typed[typedCount + i] = (char) byteOf(four, i);
        }
        typedCount += count;
        return true;
    }

    public int rule(int rule) throws IndexOutOfBoundsException, IllegalArgumentException {
        int count = typedCount;
        // Forgotten before anything can throw: the characters are spent either way.
        typedCount = 0;
        requireRule(rule);
        int alternatives = reader.readShape(typed, count);
        book.shapes[rule] = reader.exchange(book.shapes[rule]);
        return alternatives;
    }

    public boolean forget(int rule) throws IndexOutOfBoundsException {
        requireRule(rule);
        boolean was = book.shapes[rule].defined;
        book.shapes[rule].clear();
        return was;
    }

    public int feed(long w, int n) {
        return bytes.append(w, n);
    }

    public int wipe() {
        return bytes.removeAll();
    }

    public int items() throws IllegalArgumentException {
        requireWellFormed();
        return bytes.itemCount;
    }

    public int major(int k) throws IllegalArgumentException, IndexOutOfBoundsException {
        requireItem(k);
        return bytes.majors[k];
    }

    public long number(int k) throws IllegalArgumentException, IndexOutOfBoundsException {
        requireItem(k);
        return bytes.numbers[k];
    }

    public int depth(int k) throws IllegalArgumentException, IndexOutOfBoundsException {
        requireItem(k);
        return bytes.depths[k];
    }

    public int check(int rule)
            throws IndexOutOfBoundsException, NoSuchElementException, IllegalStateException {
        return Integer.bitCount(requireSoundRules(rule));
    }

    public boolean matches(int rule)
            throws IndexOutOfBoundsException, NoSuchElementException, IllegalStateException,
            IllegalArgumentException {
        requireSoundRules(rule);
        requireWellFormed();
        return matcher.fitsAsWhole(rule, 0);
    }

    public boolean matchesAt(int rule, int k)
            throws IndexOutOfBoundsException, NoSuchElementException, IllegalStateException,
            IllegalArgumentException {
        requireSoundRules(rule);
        requireItem(k);
        return matcher.fitsAsWhole(rule, k);
    }

    private static int byteOf(long w, int i) {
        return (int) (w >>> (8 * i)) & 255;
    }

    private static boolean isPrinted(int c) {
        return c >= LOWEST_PRINTED && c <= HIGHEST_PRINTED;
    }

    private static int charactersIn(int four) {
        for (int i = 0; i < 4; i++) {
            int c = byteOf(four, i);
            if (c == 0) {
                return i;
            }
            if (!isPrinted(c)) {
                throw new IllegalArgumentException("a character is not 32 .. 126");
            }
        }
        return 4;
    }

    private static void requireRule(int rule) {
        if (rule < 0 || rule >= RULE_COUNT) {
            throw new IndexOutOfBoundsException("a rule is not 0 .. 7");
        }
    }

    private void requireWellFormed() {
        if (!bytes.areWellFormed()) {
            throw new IllegalArgumentException("the bytes are not well formed");
        }
    }

    private void requireItem(int k) {
        requireWellFormed();
        if (k < 0 || k >= bytes.itemCount) {
            throw new IndexOutOfBoundsException("there is no such item");
        }
    }

    /** The set of the rules that a rule leads to and itself, all defined and none coming back barely. */
    private int requireSoundRules(int rule) {
        requireRule(rule);
        int found = (1 << rule) | book.ledTo(rule, false);
        if (!book.allDefined(found)) {
            throw new NoSuchElementException("a rule is undefined");
        }
        if (book.anyComesBackBarely(found)) {
            throw new IllegalStateException("a rule comes back to itself barely");
        }
        return found;
    }

    /** The bytes, and the items that they are, read once after each change. */
    private static final class ItemBytes {
        static final int NATURAL = 0;
        static final int NEGATIVE = 1;
        static final int STRING = 2;
        static final int TEXT = 3;
        static final int ARRAY = 4;
        static final int MAP = 5;
        static final int TAG = 6;
        static final int SIMPLE = 7;
        static final int FALSE = 20;
        static final int NULL = 22;

        final int[] bytes = new int[MOST_BYTES];
        final int[] majors = new int[MOST_ITEMS];
        final long[] numbers = new long[MOST_ITEMS];
        final int[] depths = new int[MOST_ITEMS];
        /** Where the bytes of a string or text begin. */
        final int[] starts = new int[MOST_ITEMS];
        /** The item behind one and all that lies in it: an item's parts are those from the next one to there. */
        final int[] behind = new int[MOST_ITEMS];
        int itemCount;
        private int byteCount;
        private int place;
        private boolean isRead;
        private boolean wellFormed;

        int append(long w, int n) {
            if (n < 1 || n > 8 || byteCount + n > MOST_BYTES) {
                return NONE;
            }
            for (int i = 0; i < n; i++) {
                bytes[byteCount + i] = byteOf(w, i);
            }
            byteCount += n;
            isRead = false;
            return byteCount;
        }

        int removeAll() {
            int were = byteCount;
            byteCount = 0;
            isRead = false;
            return were;
        }

        boolean areWellFormed() {
            if (!isRead) {
                itemCount = 0;
                place = 0;
                wellFormed = readItem(1) && place == byteCount;
                isRead = true;
            }
            return wellFormed;
        }

        private boolean readItem(int deep) {
            if (deep > DEEPEST_ITEM || itemCount >= MOST_ITEMS || place >= byteCount) {
                return false;
            }
            int k = itemCount;
            itemCount++;
            int major = bytes[place] >> 5;
            int info = bytes[place] & 31;
            place++;
            if (major == SIMPLE && (info < FALSE || info > NULL)) {
                return false;
            }
            long number = readNumber(info);
            majors[k] = major;
            numbers[k] = number;
            depths[k] = deep;
            starts[k] = place;
            boolean good = number != NONE && readRest(major, number, deep);
            behind[k] = itemCount;
            return good;
        }

        private long readNumber(int info) {
            if (info < 24) {
                return info;
            }
            int size = info <= 26 ? 1 << (info - 24) : MOST_BYTES + 1;
            if (size > byteCount - place) {
                return NONE;
            }
            long number = 0;
            for (int i = 0; i < size; i++) {
                number = number * 256 + bytes[place + i];
            }
            place += size;
            return number;
        }

        private boolean readRest(int major, long number, int deep) {
            switch (major) {
                case STRING:
                    return readCharacters(number, false);
                case TEXT:
                    return readCharacters(number, true);
                case ARRAY:
                    return readItems(number, deep + 1);
                case MAP:
                    return readItems(2 * number, deep + 1);
                case TAG:
                    return readItems(1, deep + 1);
                default:
                    return true;
            }
        }

        private boolean readCharacters(long number, boolean allPrinted) {
            if (number > byteCount - place) {
                return false;
            }
            for (int i = 0; i < number; i++) {
                if (allPrinted && !isPrinted(bytes[place + i])) {
                    return false;
                }
            }
            place += (int) number;
            return true;
        }

        private boolean readItems(long number, int deep) {
            if (number > MOST_ITEMS) {
                return false;
            }
            for (int i = 0; i < number; i++) {
                if (!readItem(deep)) {
                    return false;
                }
            }
            return true;
        }

        boolean isInteger(int k) {
            return majors[k] == NATURAL || majors[k] == NEGATIVE;
        }

        long integerAt(int k) {
            return majors[k] == NATURAL ? numbers[k] : -1 - numbers[k];
        }
    }

    /**
     * A TYPE that was read. ( ) has no trace in it: a TYPE is the chain of its alternatives, also of those
     * between ( ). An alternative is known by the place of its first character, a part (an entry or a
     * member) by that of the bracket or comma before it. So no two share a place, and rows as long as the
     * text hold them all.
     */
    private static final class Shape {
        static final char INTEGER = '0';
        static final char RANGE = '.';
        static final char TEXT = '"';
        static final char ARRAY = '[';
        static final char MAP = '{';
        static final char TAG = '#';
        static final char LETTER = 'A';
        static final char JUST_ONE = '1';

        final char[] text = new char[MOST_CHARACTERS];
        /** Of an alternative: one of i s t b n y, or one of the constants above. */
        final char[] kinds = new char[MOST_CHARACTERS];
        /** Of an alternative: the next one of its TYPE, or NONE. */
        final int[] nexts = new int[MOST_CHARACTERS];
        /** Of an alternative: the lesser integer, a text's first place, the tag, the rule or the first part. */
        final int[] lows = new int[MOST_CHARACTERS];
        /** Of an alternative: the greater integer, the place behind a text, or the content's TYPE. */
        final int[] highs = new int[MOST_CHARACTERS];
        /** Of a part: one of ? * + or JUST_ONE. */
        final char[] oftens = new char[MOST_CHARACTERS];
        final int[] keys = new int[MOST_CHARACTERS];
        final int[] values = new int[MOST_CHARACTERS];
        /** Of a member: whether a key that matches it is kept from the members behind it. */
        final boolean[] keeps = new boolean[MOST_CHARACTERS];
        final int[] nextParts = new int[MOST_CHARACTERS];
        boolean defined;
        int length;
        int first;
        /** The sets of rules that the type leads to, and leads to barely. */
        int leads;
        int leadsBarely;

        void clear() {
            defined = false;
            length = 0;
            first = NONE;
            leads = 0;
            leadsBarely = 0;
        }

        boolean needsOne(int part) {
            return oftens[part] == JUST_ONE || oftens[part] == '+';
        }

        boolean takesMany(int part) {
            return oftens[part] == '*' || oftens[part] == '+';
        }
    }

    /** Reads a TYPE into a shape of its own, which is then exchanged for one that is no longer used. */
    private static final class ShapeReader {
        private static final char END = 0;

        private Shape shape = new Shape();
        private int place;
        /** The last alternative of the TYPE or ALTERNATIVE that was read last. */
        private int tail;

        /** How many alternatives the TYPE has. */
        int readShape(char[] typed, int count) {
            shape.clear();
            System.arraycopy(typed, 0, shape.text, 0, count);
            shape.length = count;
            place = 0;
            shape.first = readType(0, true);
            require(place == count);
            shape.defined = true;
            return chainLength(shape.first);
        }

        Shape exchange(Shape unused) {
            Shape done = shape;
            shape = unused;
            return done;
        }

        private int chainLength(int first) {
            int count = 0;
            for (int at = first; at != NONE && count < MOST_CHARACTERS; at = shape.nexts[at]) {
                count++;
            }
            return count;
        }

        private static void require(boolean holds) {
            if (!holds) {
                throw new IllegalArgumentException("what was typed is no TYPE");
            }
        }

        private char here() {
            return place < shape.length ? shape.text[place] : END;
        }

        private boolean passes(char c) {
            if (here() != c) {
                return false;
            }
            place++;
            return true;
        }

        private boolean isDigitHere() {
            return here() >= '0' && here() <= '9';
        }

        /** Reads a TYPE that lies in so many brackets; answers its first alternative. */
        private int readType(int deep, boolean bare) {
            int first = readAlternative(deep, bare);
            for (int n = 0; n < MOST_CHARACTERS && passes('/'); n++) {
                int last = tail;
                shape.nexts[last] = readAlternative(deep, bare);
            }
            return first;
        }

        /** Answers the first alternative: there may be several between ( ). */
        private int readAlternative(int deep, boolean bare) {
            if (here() == '(') {
                return readBetween(deep, bare);
            }
            require(here() != END);
            int start = place;
            if (here() == '[') {
                readParts(Shape.ARRAY, ']', deep);
            } else if (here() == '{') {
                readParts(Shape.MAP, '}', deep);
            } else if (here() == '#') {
                readTag(deep);
            } else if (here() == '"') {
                readText();
            } else if (here() == '-' || isDigitHere()) {
                readIntegers();
            } else if (here() >= 'A' && here() <= 'H') {
                readLetter(bare);
            } else {
                readSign();
            }
            shape.nexts[start] = NONE;
            tail = start;
            return start;
        }

        private int readBetween(int deep, boolean bare) {
            require(deep < DEEPEST_BRACKET && passes('('));
            int first = readType(deep + 1, bare);
            require(passes(')'));
            return first;
        }

        private void readTag(int deep) {
            int start = place;
            place++;
            require(isDigitHere());
            shape.kinds[start] = Shape.TAG;
            shape.lows[start] = here() - '0';
            place++;
            shape.highs[start] = readBetween(deep, false);
        }

        private void readText() {
            int start = place;
            place++;
            for (int n = 0; n < MOST_CHARACTERS && here() != '"' && here() != END; n++) {
                place++;
            }
            shape.kinds[start] = Shape.TEXT;
            shape.lows[start] = start + 1;
            shape.highs[start] = place;
            require(passes('"'));
        }

        private void readIntegers() {
            int start = place;
            int low = readInteger();
            shape.kinds[start] = Shape.INTEGER;
            shape.lows[start] = low;
            shape.highs[start] = low;
            if (passes('.')) {
                require(passes('.'));
                shape.kinds[start] = Shape.RANGE;
                shape.highs[start] = readInteger();
            }
        }

        private int readInteger() {
            boolean negative = passes('-');
            require(isDigitHere());
            int value = 0;
            for (int n = 0; n < 4 && isDigitHere(); n++) {
                value = value * 10 + here() - '0';
                place++;
            }
            return negative ? -value : value;
        }

        private void readLetter(boolean bare) {
            int rule = here() - 'A';
            int set = 1 << rule;
            shape.kinds[place] = Shape.LETTER;
            shape.lows[place] = rule;
            shape.leads |= set;
            if (bare) {
                require((shape.leadsBarely & set) == 0);
                shape.leadsBarely |= set;
            }
            place++;
        }

        private void readSign() {
            char c = here();
            require(c == 'i' || c == 's' || c == 't' || c == 'b' || c == 'n' || c == 'y');
            shape.kinds[place] = c;
            place++;
        }

        private void readParts(char kind, char close, int deep) {
            require(deep < DEEPEST_BRACKET);
            int start = place;
            shape.kinds[start] = kind;
            shape.lows[start] = NONE;
            place++;
            if (passes(close)) {
                return;
            }
            shape.lows[start] = start;
            int part = start;
            readPart(part, kind, deep + 1);
            for (int n = 1; n < MOST_PARTS && here() == ','; n++) {
                shape.nextParts[part] = place;
                part = place;
                place++;
                readPart(part, kind, deep + 1);
            }
            require(passes(close));
        }

        private void readPart(int part, char kind, int deep) {
            shape.nextParts[part] = NONE;
            shape.oftens[part] = readOften();
            if (kind == Shape.MAP) {
                readKey(part, deep);
            }
            shape.values[part] = readType(deep, false);
        }

        private char readOften() {
            char c = here();
            if (c != '?' && c != '*' && c != '+') {
                return Shape.JUST_ONE;
            }
            place++;
            return c;
        }

        private void readKey(int part, int deep) {
            int start = place;
            int key = readAlternative(deep, false);
            char kind = shape.kinds[key];
            shape.keys[part] = key;
            // Between ( ) the first alternative lies behind the start, and then keeps no key.
            shape.keeps[part] = key == start && (kind == Shape.INTEGER || kind == Shape.TEXT);
            require(passes(':'));
        }
    }

    /** The rules; sets of them have a bit for each. */
    private static final class RuleBook {
        final Shape[] shapes = new Shape[RULE_COUNT];

        RuleBook() {
            for (int i = 0; i < RULE_COUNT; i++) {
                shapes[i] = new Shape();
            }
        }

        /** The set of the rules that a rule leads to, once or several times. */
        int ledTo(int rule, boolean barely) {
            int found = ledToOnce(1 << rule, barely);
            int before = 0;
            for (int i = 0; i < RULE_COUNT && found != before; i++) {
                before = found;
                found |= ledToOnce(found, barely);
            }
            return found;
        }

        private int ledToOnce(int set, boolean barely) {
            int found = 0;
            for (int i = 0; i < RULE_COUNT; i++) {
                if (has(set, i)) {
                    found |= barely ? shapes[i].leadsBarely : shapes[i].leads;
                }
            }
            return found;
        }

        boolean allDefined(int set) {
            for (int i = 0; i < RULE_COUNT; i++) {
                if (has(set, i) && !shapes[i].defined) {
                    return false;
                }
            }
            return true;
        }

        boolean anyComesBackBarely(int set) {
            for (int i = 0; i < RULE_COUNT; i++) {
                if (has(set, i) && has(ledTo(i, true), i)) {
                    return true;
                }
            }
            return false;
        }

        private static boolean has(int set, int rule) {
            return (set & (1 << rule)) != 0;
        }
    }

    /** Matches items with rules that are known to be defined and never to come back barely. */
    private static final class Matcher {
        /** For member m: of the 64 sets of members, those without m. */
        private static final long[] WITHOUT = {
            0x5555555555555555L, 0x3333333333333333L, 0x0F0F0F0F0F0F0F0FL,
            0x00FF00FF00FF00FFL, 0x0000FFFF0000FFFFL, 0x00000000FFFFFFFFL
        };

        private final RuleBook book;
        private final ItemBytes bytes;
        /**
         * For each rule and item a bit a level: whether the answer is known, and the answer. Without them
         * rules that lead to one another on many ways would be asked the same thing beyond all bounds.
         */
        private final int[] known = new int[RULE_COUNT * MOST_ITEMS];
        private final int[] answers = new int[RULE_COUNT * MOST_ITEMS];

        Matcher(RuleBook book, ItemBytes bytes) {
            this.book = book;
            this.bytes = bytes;
        }

        boolean fitsAsWhole(int rule, int item) {
            Arrays.fill(known, 0);
            Arrays.fill(answers, 0);
            return fitsRule(rule, item, 0);
        }

        private boolean fitsRule(int rule, int item, int level) {
            if (level > HIGHEST_LEVEL) {
                return false;
            }
            int at = rule * MOST_ITEMS + item;
            int bit = 1 << level;
            if ((known[at] & bit) == 0) {
                Shape shape = book.shapes[rule];
                boolean fits = fitsType(shape, shape.first, item, level);
                known[at] |= bit;
                answers[at] |= fits ? bit : 0;
            }
            return (answers[at] & bit) != 0;
        }

        private boolean fitsType(Shape shape, int first, int item, int level) {
            if (level > HIGHEST_LEVEL) {
                return false;
            }
            int at = first;
            for (int n = 0; n < MOST_CHARACTERS && at != NONE; n++) {
                if (fitsAlternative(shape, at, item, level)) {
                    return true;
                }
                at = shape.nexts[at];
            }
            return false;
        }

        private boolean fitsAlternative(Shape shape, int at, int item, int level) {
            int major = bytes.majors[item];
            switch (shape.kinds[at]) {
                case 'i':
                    return bytes.isInteger(item);
                case 's':
                    return major == ItemBytes.STRING;
                case 't':
                    return major == ItemBytes.TEXT;
                case 'b':
                    return major == ItemBytes.SIMPLE && bytes.numbers[item] != ItemBytes.NULL;
                case 'n':
                    return major == ItemBytes.SIMPLE && bytes.numbers[item] == ItemBytes.NULL;
                case 'y':
                    return true;
                case Shape.INTEGER:
                case Shape.RANGE:
                    return isBetween(item, shape.lows[at], shape.highs[at]);
                case Shape.TEXT:
                    return major == ItemBytes.TEXT && hasCharacters(item, shape, at);
                case Shape.ARRAY:
                    return major == ItemBytes.ARRAY && fitsEntries(shape, shape.lows[at], item, level + 1);
                case Shape.MAP:
                    return major == ItemBytes.MAP && fitsMembers(shape, shape.lows[at], item, level + 1);
                case Shape.TAG:
                    return major == ItemBytes.TAG && bytes.numbers[item] == shape.lows[at]
                            && fitsType(shape, shape.highs[at], item + 1, level + 1);
                case Shape.LETTER:
                    return fitsRule(shape.lows[at], item, level + 1);
                default:
                    return false;
            }
        }

        private boolean isBetween(int item, int low, int high) {
            return bytes.isInteger(item) && bytes.integerAt(item) >= low && bytes.integerAt(item) <= high;
        }

        private boolean hasCharacters(int item, Shape shape, int at) {
            int from = shape.lows[at];
            int length = shape.highs[at] - from;
            if (bytes.numbers[item] != length) {
                return false;
            }
            for (int i = 0; i < length; i++) {
                if (bytes.bytes[bytes.starts[item] + i] != shape.text[from + i]) {
                    return false;
                }
            }
            return true;
        }

        private boolean fitsEntries(Shape shape, int firstEntry, int array, int level) {
            int end = bytes.behind[array];
            int item = array + 1;
            int entry = firstEntry;
            for (int n = 0; n < MOST_PARTS && entry != NONE; n++) {
                int from = item;
                item = itemBehindEntry(shape, entry, from, end, level);
                if (item == from && shape.needsOne(entry)) {
                    return false;
                }
                entry = shape.nextParts[entry];
            }
            return item == end;
        }

        private int itemBehindEntry(Shape shape, int entry, int from, int end, int level) {
            int most = shape.takesMany(entry) ? MOST_ITEMS : 1;
            int item = from;
            for (int n = 0; n < most && item < end; n++) {
                if (!fitsType(shape, shape.values[entry], item, level)) {
                    return item;
                }
                item = bytes.behind[item];
            }
            return item;
        }

        /**
         * The pairs are given away one after another. All that matters of how it was done so far is which
         * members have a pair by now, so it is enough to keep the sets of members that can be come to.
         */
        private boolean fitsMembers(Shape shape, int firstMember, int map, int level) {
            int end = bytes.behind[map];
            int key = map + 1;
            long sets = 1;
            for (int n = 0; n < MOST_ITEMS && key < end && sets != 0; n++) {
                sets = setsWithPair(shape, firstMember, key, level, sets);
                key = bytes.behind[bytes.behind[key]];
            }
            int member = firstMember;
            for (int m = 0; m < MOST_PARTS && member != NONE; m++) {
                if (shape.needsOne(member)) {
                    sets &= ~WITHOUT[m];
                }
                member = shape.nextParts[member];
            }
            return sets != 0;
        }

        private long setsWithPair(Shape shape, int firstMember, int key, int level, long sets) {
            int value = bytes.behind[key];
            long found = 0;
            int member = firstMember;
            for (int m = 0; m < MOST_PARTS && member != NONE; m++) {
                boolean keyFits = fitsType(shape, shape.keys[member], key, level);
                if (keyFits && fitsType(shape, shape.values[member], value, level)) {
                    found |= (sets & WITHOUT[m]) << (1 << m);
                    found |= shape.takesMany(member) ? sets & ~WITHOUT[m] : 0;
                }
                if (keyFits && shape.keeps[member]) {
                    return found;
                }
                member = shape.nextParts[member];
            }
            return found;
        }
    }
}
