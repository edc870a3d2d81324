/**
 * Reads values from a text of brackets, numbers and strings in which strings that come again may
 * stand as short codes and arrays can mean sets, lists, maps and values with tags, and writes
 * values in the one way that is prescribed.
 */
public final class RollingTransit {
    public static final int NONE = -1;

    private static final int NULL = 0;
    private static final int BOOLEAN = 1;
    private static final int INTEGER = 2;
    private static final int INSTANT = 3;
    private static final int STRING = 4;
    private static final int KEYWORD = 5;
    private static final int SYMBOL = 6;
    private static final int CHARACTER = 7;
    private static final int ARRAY = 8;
    private static final int LIST = 9;
    private static final int SET = 10;
    private static final int MAP = 11;
    private static final int TAGGED = 12;

    private static final int TEXT_ROOM = 240;
    // Every value takes at least one character of the text that is its own.
    private static final int VALUE_ROOM = TEXT_ROOM;
    private static final int ARRAY_DEPTH = 8;
    // Inside the eighth array there may still be a TAGGED that was one string, and its STRING.
    private static final int VALUE_DEPTH = ARRAY_DEPTH + 2;
    private static final int NOTE_ROOM = 24;
    private static final int CODE_BASE = 6;
    private static final int LONGEST_NOT_NOTED = 3;
    private static final int LONGEST_NUMBER = 20;
    private static final long LOWEST = -9223372036854775808L;
    private static final long HIGHEST_BARE = 9007199254740992L;

    private final Tree[] slots;
    private final Reader reader;
    private final Writer writer;
    private Letters text;

    public RollingTransit() {
        slots = new Tree[] {new Tree(), new Tree()};
        reader = new Reader();
        writer = new Writer();
        text = new Letters(TEXT_ROOM);
    }

    public boolean type(int w) {
        int wanted = 0;
        for (int shift = 24; shift >= 0; shift -= 8) {
            int c = (w >>> shift) & 255;
            if (c != 0 && (c < ' ' || c > '~')) {
                return false;
            }
            wanted += c != 0 ? 1 : 0;
        }
        if (wanted > TEXT_ROOM - text.count) {
            return false;
        }
        for (int shift = 24; shift >= 0; shift -= 8) {
            int c = (w >>> shift) & 255;
            if (c != 0) {
                text.add(c);
            }
        }
        return true;
    }

    public void wipe() {
        text.cut(0);
    }

    public int length() {
        return text.count;
    }

    public int at(int k) {
        return text.peek(k);
    }

    public int read(int slot) throws IndexOutOfBoundsException, IllegalArgumentException {
        requireSlot(slot);
        reader.readText(text);
        slots[slot] = reader.exchange(slots[slot]);
        return slots[slot].count;
    }

    public int fault() {
        return reader.fault;
    }

    public int write(int slot)
            throws IndexOutOfBoundsException, IllegalStateException, UnsupportedOperationException {
        requireSlot(slot);
        if (slots[slot].count == 0) {
            throw new IllegalStateException();
        }
        writer.writeTree(slots[slot]);
        text = writer.exchange(text);
        return text.count;
    }

    public int values(int slot) throws IndexOutOfBoundsException {
        requireSlot(slot);
        return slots[slot].count;
    }

    public int kind(int slot, int k) throws IndexOutOfBoundsException {
        requireValue(slot, k);
        return slots[slot].kinds[k];
    }

    public int size(int slot, int k) throws IndexOutOfBoundsException {
        requireValue(slot, k);
        Tree tree = slots[slot];
        return tree.kinds[k] >= ARRAY ? tree.parts[k] : tree.wordSizes[k];
    }

    public long number(int slot, int k) throws IndexOutOfBoundsException {
        requireValue(slot, k);
        return slots[slot].numbers[k];
    }

    public int letter(int slot, int k, int i) throws IndexOutOfBoundsException {
        requireValue(slot, k);
        Tree tree = slots[slot];
        if (i < 0 || i >= tree.wordSizes[k]) {
            return NONE;
        }
        return tree.words.peek(tree.wordFroms[k] + i);
    }

    public int pick(int slot, int k) throws IndexOutOfBoundsException {
        requireValue(slot, k);
        slots[slot].keepOnly(k);
        return slots[slot].count;
    }

    public boolean same() {
        if (slots[0].count == 0 || slots[1].count == 0) {
            return slots[0].count == slots[1].count;
        }
        return Tree.alike(slots[0], 0, slots[1], 0, 0);
    }

    public void swap() {
        Tree first = slots[0];
        slots[0] = slots[1];
        slots[1] = first;
    }

    private static void requireSlot(int slot) {
        if (slot != 0 && slot != 1) {
            throw new IndexOutOfBoundsException();
        }
    }

    private void requireValue(int slot, int k) {
        requireSlot(slot);
        if (k < 0 || k >= slots[slot].count) {
            throw new IndexOutOfBoundsException();
        }
    }

    private static boolean isDigit(int c) {
        return c >= '0' && c <= '9';
    }

    private static boolean isAlphabetic(int c) {
        return c >= 'a' && c <= 'z' || c >= 'A' && c <= 'Z';
    }

    /** A row of characters with a fixed room, used again and again. */
    private static final class Letters {
        private final char[] row;
        private int count;

        Letters(int room) {
            row = new char[room];
            count = 0;
        }

        boolean add(int c) {
            if (count >= row.length) {
                return false;
            }
            row[count] = (char) c;
            count++;
            return true;
        }

        int peek(int k) {
            return k >= 0 && k < count ? row[k] : NONE;
        }

        void cut(int newCount) {
            count = newCount;
        }

        private boolean has(int from, int stretch) {
            return from >= 0 && from <= count - stretch;
        }

        /** Whether a stretch of this row is, letter by letter, a stretch of that length of another. */
        boolean matches(int from, Letters other, int otherFrom, int stretch) {
            if (!has(from, stretch) || !other.has(otherFrom, stretch)) {
                return false;
            }
            for (int i = 0; i < stretch; i++) {
                if (row[from + i] != other.row[otherFrom + i]) {
                    return false;
                }
            }
            return true;
        }

        boolean spells(int from, int stretch, String word) {
            if (stretch != word.length()) {
                return false;
            }
            for (int i = 0; i < stretch; i++) {
                if (peek(from + i) != word.charAt(i)) {
                    return false;
                }
            }
            return true;
        }
    }

    /**
     * A value and all that is in it, in the order of their numbers: behind each value the values in
     * its first part, in its second one, and so on. So a value and all in it are one stretch, which
     * stops before ends[k].
     */
    private static final class Tree {
        private final int[] kinds;
        private final long[] numbers;
        private final int[] wordFroms;
        private final int[] wordSizes;
        private final int[] parts;
        private final int[] ends;
        private final Letters words;
        private int count;

        Tree() {
            kinds = new int[VALUE_ROOM];
            numbers = new long[VALUE_ROOM];
            wordFroms = new int[VALUE_ROOM];
            wordSizes = new int[VALUE_ROOM];
            parts = new int[VALUE_ROOM];
            ends = new int[VALUE_ROOM];
            words = new Letters(TEXT_ROOM);
            count = 0;
        }

        void clear() {
            count = 0;
            words.cut(0);
        }

        boolean isFull() {
            return count >= VALUE_ROOM;
        }

        /** Appends a value without parts; to be called only when the tree is not full. */
        int append(int kind, long number) {
            int k = count;
            kinds[k] = kind;
            numbers[k] = number;
            wordFroms[k] = 0;
            wordSizes[k] = 0;
            parts[k] = 0;
            ends[k] = k + 1;
            count++;
            return k;
        }

        void giveWord(int k, int from, int wordSize) {
            wordFroms[k] = from;
            wordSizes[k] = wordSize;
        }

        /** Takes away value k and all behind it. */
        void cut(int k) {
            count = k;
        }

        /** All values behind k become those in its parts. */
        void close(int k, int kind, int partCount) {
            kinds[k] = kind;
            parts[k] = partCount;
            ends[k] = count;
        }

        void keepOnly(int k) {
            int kept = ends[k] - k;
            for (int i = 0; i < kept; i++) {
                kinds[i] = kinds[k + i];
                numbers[i] = numbers[k + i];
                wordFroms[i] = wordFroms[k + i];
                wordSizes[i] = wordSizes[k + i];
                parts[i] = parts[k + i];
                ends[i] = ends[k + i] - k;
            }
            count = kept;
        }

        /** Where the next part begins behind part k, or the next key behind key k (paired). */
        int behind(int k, boolean paired) {
            return paired ? ends[ends[k]] : ends[k];
        }

        boolean hasSimpleKeys(int map) {
            int key = map + 1;
            for (int i = 0; i < parts[map]; i += 2) {
                if (kinds[key] > CHARACTER) {
                    return false;
                }
                key = behind(key, true);
            }
            return true;
        }

        /** Whether two values are same; the depth says how deep both are in those asked for first. */
        private static boolean alike(Tree a, int i, Tree b, int j, int depth) {
            if (depth >= VALUE_DEPTH
                    || a.kinds[i] != b.kinds[j]
                    || a.numbers[i] != b.numbers[j]
                    || a.parts[i] != b.parts[j]
                    || a.wordSizes[i] != b.wordSizes[j]
                    || !a.words.matches(a.wordFroms[i], b.words, b.wordFroms[j], a.wordSizes[i])) {
                return false;
            }
            if (a.kinds[i] == SET) {
                return alikeInAnyOrder(a, i, b, j, false, depth + 1);
            }
            if (a.kinds[i] == MAP) {
                return alikeInAnyOrder(a, i, b, j, true, depth + 1);
            }
            return alikeInOrder(a, i, b, j, depth + 1);
        }

        private static boolean alikeInOrder(Tree a, int i, Tree b, int j, int depth) {
            int left = i + 1;
            int right = j + 1;
            for (int n = 0; n < a.parts[i]; n++) {
                if (!alike(a, left, b, right, depth)) {
                    return false;
                }
                left = a.ends[left];
                right = b.ends[right];
            }
            return true;
        }

        /**
         * Compares two SETS, or two MAPS (paired), with as many parts. As no part or key comes twice
         * in either, it is enough that each one of a is found in b.
         */
        private static boolean alikeInAnyOrder(
                Tree a, int i, Tree b, int j, boolean paired, int depth) {
            int step = paired ? 2 : 1;
            int left = i + 1;
            for (int n = 0; n < a.parts[i]; n += step) {
                int right = j + 1;
                int m = 0;
                while (m < b.parts[j] && !alike(a, left, b, right, depth)) {
                    right = b.behind(right, paired);
                    m += step;
                }
                if (m >= b.parts[j]) {
                    return false;
                }
                if (paired && !alike(a, a.ends[left], b, b.ends[right], depth)) {
                    return false;
                }
                left = a.behind(left, paired);
            }
            return true;
        }
    }

    /** The words that have numbers, as stretches of a row that is kept elsewhere. */
    private static final class Notes {
        private final int[] froms;
        private final int[] sizes;
        private int count;

        Notes() {
            froms = new int[NOTE_ROOM];
            sizes = new int[NOTE_ROOM];
            count = 0;
        }

        void forget() {
            count = 0;
        }

        void note(int from, int wordSize) {
            if (count >= NOTE_ROOM) {
                forget();
            }
            froms[count] = from;
            sizes[count] = wordSize;
            count++;
        }

        int find(Letters row, int from, int wordSize) {
            for (int n = 0; n < count; n++) {
                if (sizes[n] == wordSize && row.matches(froms[n], row, from, wordSize)) {
                    return n;
                }
            }
            return NONE;
        }

        static boolean takes(Letters row, int from, int wordSize, boolean key) {
            if (wordSize <= LONGEST_NOT_NOTED) {
                return false;
            }
            int mark = row.peek(from + 1);
            return key || row.peek(from) == '~' && (mark == ':' || mark == '$' || mark == '#');
        }
    }

    /** Looks at a row of characters for a number as the grammar has it. */
    private static final class Numeral {
        private long value;
        private int stop;
        private boolean fits;

        /** Whether there is a number at from; stop is the place behind it, or where it breaks off. */
        boolean scan(Letters row, int from, int to) {
            boolean minus = from < to && row.peek(from) == '-';
            stop = minus ? from + 1 : from;
            value = 0;
            fits = true;
            if (stop >= to || !isDigit(row.peek(stop))) {
                return false;
            }
            if (row.peek(stop) == '0') {
                stop += minus ? 0 : 1;
                return !minus;
            }
            for (; stop < to && isDigit(row.peek(stop)); stop++) {
                takeDigit(row.peek(stop) - '0');
            }
            if (!minus) {
                fits = fits && value != LOWEST;
                value = -value;
            }
            return true;
        }

        // Counts below 0, as there is one number more there than above. Twenty digits never fit.
        private void takeDigit(int digit) {
            fits = fits && (value > LOWEST / 10 || value == LOWEST / 10 && digit <= -(LOWEST % 10));
            if (fits) {
                value = value * 10 - digit;
            }
        }
    }

    /** Makes a tree of a text, from the left to the right, and stops at the first error. */
    private static final class Reader {
        private final Notes notes;
        private final Numeral numeral;
        private final int[] starts;
        private Letters text;
        private Tree tree;
        private int place;
        private int fault;
        // Of the string that was read last: its first place, and the raw word that it stands for.
        private int quote;
        private int wordFrom;
        private int wordSize;

        Reader() {
            notes = new Notes();
            numeral = new Numeral();
            starts = new int[VALUE_ROOM];
            tree = new Tree();
            fault = NONE;
        }

        void readText(Letters source) {
            text = source;
            place = 0;
            fault = NONE;
            notes.forget();
            tree.clear();
            element(false, 0);
            skipSpaces();
            if (place < text.count) {
                fail(place);
            }
        }

        /** Hands out the tree that was made, and takes another one to be used next. */
        Tree exchange(Tree other) {
            Tree made = tree;
            tree = other;
            return made;
        }

        private void fail(int where) {
            fault = where;
            throw new IllegalArgumentException();
        }

        private void skipSpaces() {
            while (place < text.count && text.peek(place) == ' ') {
                place++;
            }
        }

        private void expect(char c) {
            if (text.peek(place) != c) {
                fail(place);
            }
            place++;
        }

        private int add(int kind, long number, int start) {
            if (tree.isFull()) {
                fail(start);
            }
            int k = tree.append(kind, number);
            starts[k] = start;
            return k;
        }

        private void element(boolean key, int depth) {
            skipSpaces();
            int c = text.peek(place);
            if (c == '[') {
                array(depth);
            } else if (c == '"') {
                word(key);
                meaning();
            } else if (c == '-' || isDigit(c)) {
                bareNumber();
            } else {
                name(c);
            }
        }

        private void name(int c) {
            int start = place;
            if (c == 'n') {
                spell("null");
                add(NULL, 0, start);
            } else if (c == 't') {
                spell("true");
                add(BOOLEAN, 1, start);
            } else {
                // Any other character fails here at once.
                spell("false");
                add(BOOLEAN, 0, start);
            }
        }

        private void spell(String name) {
            for (int i = 0; i < name.length(); i++) {
                expect(name.charAt(i));
            }
        }

        private void bareNumber() {
            int start = place;
            if (!numeral.scan(text, start, text.count)) {
                fail(numeral.stop);
            }
            if (!numeral.fits) {
                fail(start);
            }
            place = numeral.stop;
            add(INTEGER, numeral.value, start);
        }

        /** Reads a string: puts its raw word to the tree's words, and notes or decodes it. */
        private void word(boolean key) {
            quote = place;
            wordFrom = tree.words.count;
            place++;
            for (; place < text.count && text.peek(place) != '"'; place++) {
                if (text.peek(place) == '\\') {
                    place++;
                    requireEscaped(text.peek(place));
                }
                tree.words.add(text.peek(place));
            }
            expect('"');
            wordSize = tree.words.count - wordFrom;
            int code = codeOfWord();
            if (code != NONE) {
                decode(code);
            } else if (Notes.takes(tree.words, wordFrom, wordSize, key)) {
                notes.note(wordFrom, wordSize);
            }
        }

        private void requireEscaped(int c) {
            if (c != '"' && c != '\\' && c != '/') {
                fail(place);
            }
        }

        private int codeOfWord() {
            int first = wordLetter(1) - '0';
            int second = wordLetter(2) - '0';
            if (wordLetter(0) != '^' || first < 0 || first >= CODE_BASE) {
                return NONE;
            }
            if (wordSize == 2) {
                return first;
            }
            boolean two = wordSize == 3 && second >= 0 && second < CODE_BASE;
            return two ? CODE_BASE * first + second : NONE;
        }

        private void decode(int code) {
            if (code >= notes.count) {
                fail(quote);
            }
            wordFrom = notes.froms[code];
            wordSize = notes.sizes[code];
        }

        private int wordLetter(int i) {
            return i < wordSize ? tree.words.peek(wordFrom + i) : NONE;
        }

        private void require(boolean fine) {
            if (!fine) {
                fail(quote);
            }
        }

        /** Adds what the word means; where it may open a map or a tag, that was looked at before. */
        private void meaning() {
            int front = wordLetter(0);
            require(front != '^' && front != '`');
            if (front != '~') {
                addWord(STRING, 0);
                return;
            }
            int mark = wordLetter(1);
            int third = wordLetter(2);
            switch (mark) {
                case '~':
                case '^':
                case '`':
                    addWord(STRING, 1);
                    break;
                case '_':
                    require(wordSize == 2);
                    add(NULL, 0, quote);
                    break;
                case '?':
                    require(wordSize == 3 && (third == 't' || third == 'f'));
                    add(BOOLEAN, third == 't' ? 1 : 0, quote);
                    break;
                case 'i':
                    addNumber(INTEGER);
                    break;
                case 'm':
                    addNumber(INSTANT);
                    break;
                case ':':
                    require(wordSize > 2);
                    addWord(KEYWORD, 2);
                    break;
                case '$':
                    require(wordSize > 2);
                    addWord(SYMBOL, 2);
                    break;
                case 'c':
                    require(wordSize == 3);
                    add(CHARACTER, third, quote);
                    break;
                default:
                    require(isAlphabetic(mark));
                    addTaggedString();
            }
        }

        private void addWord(int kind, int skipped) {
            int k = add(kind, 0, quote);
            tree.giveWord(k, wordFrom + skipped, wordSize - skipped);
        }

        private void addNumber(int kind) {
            int to = wordFrom + wordSize;
            boolean whole = numeral.scan(tree.words, wordFrom + 2, to);
            require(whole && numeral.fits && numeral.stop == to);
            add(kind, numeral.value, quote);
        }

        private void addTaggedString() {
            int k = add(TAGGED, 0, quote);
            tree.giveWord(k, wordFrom + 1, 1);
            int part = add(STRING, 0, quote);
            tree.giveWord(part, wordFrom + 2, wordSize - 2);
            tree.close(k, TAGGED, 1);
        }

        private void array(int depth) {
            int start = place;
            if (depth >= ARRAY_DEPTH) {
                fail(start);
            }
            place++;
            skipSpaces();
            int top = add(ARRAY, 0, start);
            int c = text.peek(place);
            if (c == ']') {
                place++;
            } else if (c != '"') {
                element(false, depth + 1);
                furtherElements(top, depth);
            } else {
                word(false);
                if (tree.words.spells(wordFrom, wordSize, "^ ")) {
                    mapElements(top, depth);
                } else if (wordLetter(0) == '~' && wordLetter(1) == '#') {
                    require(wordSize > 2);
                    content(top, depth);
                } else {
                    meaning();
                    furtherElements(top, depth);
                }
            }
        }

        /** Behind an element of an array: passes the comma before the next one, or the end. */
        private boolean passComma() {
            skipSpaces();
            if (text.peek(place) == ']') {
                place++;
                return false;
            }
            expect(',');
            return true;
        }

        private void furtherElements(int top, int depth) {
            int partCount = 1;
            while (partCount < VALUE_ROOM && passComma()) {
                element(false, depth + 1);
                partCount++;
            }
            tree.close(top, ARRAY, partCount);
        }

        private void mapElements(int top, int depth) {
            int partCount = 0;
            while (partCount < VALUE_ROOM && passComma()) {
                element(true, depth + 1);
                skipSpaces();
                expect(',');
                element(false, depth + 1);
                partCount += 2;
            }
            tree.close(top, MAP, partCount);
            refuseTwins(top);
        }

        /**
         * Reads what stands behind a tag. But for a TAGGED value the array is no value beside its
         * content, so the content takes the place that the array had in the tree.
         */
        private void content(int top, int depth) {
            int tagFrom = wordFrom + 2;
            int tagSize = wordSize - 2;
            int kind = kindOfTag(tagFrom, tagSize);
            int start = starts[top];
            if (kind == TAGGED) {
                tree.giveWord(top, tagFrom, tagSize);
            } else {
                tree.cut(top);
            }
            skipSpaces();
            expect(',');
            element(false, depth + 1);
            skipSpaces();
            expect(']');
            if (kind == TAGGED) {
                tree.close(top, TAGGED, 1);
            } else if (kind != NONE) {
                requireArray(top, kind);
                tree.kinds[top] = kind;
                if (kind != LIST) {
                    refuseTwins(top);
                }
            }
            starts[top] = start;
        }

        /** The kind that a tag makes of its content; NONE when the content stays what it is. */
        private int kindOfTag(int from, int tagSize) {
            if (tree.words.spells(from, tagSize, "'")) {
                return NONE;
            }
            if (tree.words.spells(from, tagSize, "set")) {
                return SET;
            }
            if (tree.words.spells(from, tagSize, "list")) {
                return LIST;
            }
            return tree.words.spells(from, tagSize, "cmap") ? MAP : TAGGED;
        }

        private void requireArray(int top, int kind) {
            boolean odd = tree.parts[top] % 2 != 0;
            if (tree.kinds[top] != ARRAY || kind == MAP && odd) {
                fail(starts[top]);
            }
        }

        /** Looks in a SET for a part, or in a MAP for a key, that is same as one before it. */
        private void refuseTwins(int top) {
            boolean paired = tree.kinds[top] == MAP;
            int step = paired ? 2 : 1;
            int later = top + 1;
            for (int n = 0; n < tree.parts[top]; n += step) {
                int earlier = top + 1;
                for (int m = 0; m < n; m += step) {
                    if (Tree.alike(tree, earlier, tree, later, 0)) {
                        fail(starts[later]);
                    }
                    earlier = tree.behind(earlier, paired);
                }
                later = tree.behind(later, paired);
            }
        }
    }

    /** Writes a tree as a text. */
    private static final class Writer {
        private final Notes notes;
        // Kept are the raw words that are noted, and behind them the one that is being made. The
        // kept ones stand in the draft too, so all of them need no more room than it.
        private final Letters raw;
        private final char[] digits;
        private Letters draft;
        private Tree tree;

        Writer() {
            notes = new Notes();
            raw = new Letters(2 * TEXT_ROOM);
            digits = new char[LONGEST_NUMBER];
            draft = new Letters(TEXT_ROOM);
        }

        void writeTree(Tree source) {
            tree = source;
            notes.forget();
            raw.cut(0);
            draft.cut(0);
            if (tree.kinds[0] <= CHARACTER) {
                // A tag of one character is never noted, so it stands here as it is.
                putName("[\"~#'\",");
                simple(0, false);
                put(']');
            } else {
                value(0, false, 0);
            }
        }

        /** Hands out the text that was written, and takes another one to be used next. */
        Letters exchange(Letters other) {
            Letters made = draft;
            draft = other;
            return made;
        }

        private void put(int c) {
            if (!draft.add(c)) {
                throw new UnsupportedOperationException();
            }
        }

        private void open(int depth) {
            if (depth >= ARRAY_DEPTH) {
                throw new UnsupportedOperationException();
            }
            put('[');
        }

        private void value(int k, boolean key, int depth) {
            switch (tree.kinds[k]) {
                case ARRAY:
                    array(k, depth);
                    break;
                case LIST:
                    taggedArray("~#list", k, depth);
                    break;
                case SET:
                    taggedArray("~#set", k, depth);
                    break;
                case MAP:
                    if (tree.hasSimpleKeys(k)) {
                        simpleMap(k, depth);
                    } else {
                        taggedArray("~#cmap", k, depth);
                    }
                    break;
                case TAGGED:
                    tagged(k, depth);
                    break;
                default:
                    simple(k, key);
            }
        }

        private void array(int k, int depth) {
            open(depth);
            int part = k + 1;
            for (int i = 0; i < tree.parts[k]; i++) {
                if (i > 0) {
                    put(',');
                }
                value(part, false, depth + 1);
                part = tree.ends[part];
            }
            put(']');
        }

        private void taggedArray(String tagWord, int k, int depth) {
            open(depth);
            int from = raw.count;
            draftWord(tagWord);
            putString(from, false);
            put(',');
            array(k, depth + 1);
            put(']');
        }

        private void simpleMap(int k, int depth) {
            open(depth);
            putName("\"^ \"");
            int part = k + 1;
            for (int i = 0; i < tree.parts[k]; i++) {
                put(',');
                value(part, i % 2 == 0, depth + 1);
                part = tree.ends[part];
            }
            put(']');
        }

        private void tagged(int k, int depth) {
            open(depth);
            int from = raw.count;
            draftWord("~#");
            draftWordOf(k);
            putString(from, false);
            put(',');
            value(k + 1, false, depth + 1);
            put(']');
        }

        private void simple(int k, boolean key) {
            long number = tree.numbers[k];
            int kind = tree.kinds[k];
            boolean small = number >= -HIGHEST_BARE && number <= HIGHEST_BARE;
            if (kind == NULL && !key) {
                putName("null");
            } else if (kind == BOOLEAN && !key) {
                putName(number == 1 ? "true" : "false");
            } else if (kind == INTEGER && !key && small) {
                putNumber(number);
            } else {
                int from = raw.count;
                draftSimple(k, kind, number);
                putString(from, key);
            }
        }

        /** Drafts the raw word of the string that means a SIMPLE value. */
        private void draftSimple(int k, int kind, long number) {
            switch (kind) {
                case NULL:
                    draftWord("~_");
                    break;
                case BOOLEAN:
                    draftWord(number == 1 ? "~?t" : "~?f");
                    break;
                case INTEGER:
                    draftWord("~i");
                    draftNumber(number);
                    break;
                case INSTANT:
                    draftWord("~m");
                    draftNumber(number);
                    break;
                case KEYWORD:
                    draftWord("~:");
                    draftWordOf(k);
                    break;
                case SYMBOL:
                    draftWord("~$");
                    draftWordOf(k);
                    break;
                case CHARACTER:
                    draftWord("~c");
                    raw.add((int) number);
                    break;
                default:
                    draftEscape(k);
                    draftWordOf(k);
            }
        }

        private void draftEscape(int k) {
            if (tree.wordSizes[k] == 0) {
                return;
            }
            int front = tree.words.peek(tree.wordFroms[k]);
            if (front == '~' || front == '^' || front == '`') {
                raw.add('~');
            }
        }

        private void draftWord(String word) {
            for (int i = 0; i < word.length(); i++) {
                raw.add(word.charAt(i));
            }
        }

        private void draftWordOf(int k) {
            for (int i = 0; i < tree.wordSizes[k]; i++) {
                raw.add(tree.words.peek(tree.wordFroms[k] + i));
            }
        }

        private void draftNumber(long number) {
            int first = spellNumber(number);
            for (int i = first; i < LONGEST_NUMBER; i++) {
                raw.add(digits[i]);
            }
        }

        private void putNumber(long number) {
            int first = spellNumber(number);
            for (int i = first; i < LONGEST_NUMBER; i++) {
                put(digits[i]);
            }
        }

        /** Fills the row of digits from its end, and answers where the number begins in it. */
        private int spellNumber(long number) {
            // Below 0 there is one number more than above, so the digits are taken from there.
            long rest = number < 0 ? number : -number;
            int first = LONGEST_NUMBER;
            do {
                first--;
                digits[first] = (char) ('0' - rest % 10);
                rest /= 10;
            } while (rest != 0 && first > 1);
            if (number < 0) {
                first--;
                digits[first] = '-';
            }
            return first;
        }

        private void putName(String name) {
            for (int i = 0; i < name.length(); i++) {
                put(name.charAt(i));
            }
        }

        /** Writes the raw word that was drafted from a place on, or the code that it has. */
        private void putString(int from, boolean key) {
            int wordSize = raw.count - from;
            boolean noted = Notes.takes(raw, from, wordSize, key);
            int code = noted ? notes.find(raw, from, wordSize) : NONE;
            put('"');
            if (code == NONE) {
                putEscaped(from);
            } else {
                putCode(code);
            }
            put('"');
            if (noted && code == NONE) {
                notes.note(from, wordSize);
            } else {
                raw.cut(from);
            }
        }

        private void putEscaped(int from) {
            for (int i = from; i < raw.count; i++) {
                int c = raw.peek(i);
                if (c == '"' || c == '\\') {
                    put('\\');
                }
                put(c);
            }
        }

        private void putCode(int code) {
            put('^');
            if (code >= CODE_BASE) {
                put('0' + code / CODE_BASE);
            }
            put('0' + code % CODE_BASE);
        }
    }
}
