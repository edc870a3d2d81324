/** The boundary cases of promises 9 to 13: values, kind, size, number, letter. */
public final class EdgeLookTest {
    /** One value of each kind, each with the number that it has in the whole. */
    private static final String EACH_KIND = "[null,true,-5,\"~m7\",\"word\",\"~:keys\",\"~$s\",\"~c~\",[],[\"~#list\",[1]],"
            + "[\"~#set\",[2,3]],[\"^ \",4,5],[\"~#tag\",6]]";
    private static final int[] KINDS = {8, 0, 1, 2, 3, 4, 5, 6, 7, 8, 9, 2, 10, 2, 2, 11, 2, 2, 12, 2};
    private static final int[] SIZES = {13, 0, 0, 0, 0, 4, 4, 1, 0, 0, 1, 0, 2, 0, 0, 2, 0, 0, 1, 0};
    private static final long[] NUMBERS = {0, 0, 1, -5, 7, 0, 0, 0, 126, 0, 0, 1, 0, 2, 3, 0, 4, 5, 0, 6};
    private static final String[] WORDS = {
        "", "", "", "", "", "word", "keys", "s", "", "", "", "", "", "", "", "", "", "", "tag", ""
    };

    public static void main(String[] args) {
        howManyValues();
        orderOfValues();
        kinds();
        sizes();
        numbers();
        letters();
        noSlot();
        noValue();
        lookingChangesNothing();
        Check.end();
    }

    private static Probe eachKind() {
        Probe p = new Probe().put(EACH_KIND);
        p.read(1);
        return p;
    }

    private static void count(String text, int due) {
        Probe p = new Probe().put(text);
        Check.due("read of " + text, p.read(0), String.valueOf(due));
        Check.due("values of " + text, p.x.values(0), due);
        Check.due("last kind of " + text, Probe.answer(() -> p.x.kind(0, due - 1)).matches("\\d+"), true);
        Check.due("no kind behind it of " + text, Probe.answer(() -> p.x.kind(0, due)), Edge.NO_PLACE);
        Check.due("values of the other slot", p.x.values(1), 0);
    }

    private static void howManyValues() {
        Check.sentence("How many values are in the slot's (as for read); 0 when it is empty.");
        Check.due("values(0) of none", new Probe().x.values(0), 0);
        Check.due("values(1) of none", new Probe().x.values(1), 0);
        count("null", 1);
        count("[]", 1);
        count("[[]]", 2);
        count("[\"~#'\",1]", 1);
        count("[\"~#'\",[]]", 1);
        count("\"~z\"", 2);
        count("[\"~#z\",1]", 2);
        count("[\"~#set\",[]]", 1);
        count("[\"~#list\",[1]]", 2);
        count("[\"^ \"]", 1);
        count("[\"^ \",1,2]", 3);
        count("[\"~#cmap\",[[1],\"~z\"]]", 5);
        count("[1" + ",1".repeat(118) + "]", 120);
        count("[" + "1,".repeat(118) + "12]", 120);
        count("[\"~#list\",[1" + ",1".repeat(113) + "]]", 115);
        count("[" + "[],".repeat(78) + "[]]", 80);
        count("[" + "\"~z\",".repeat(47) + "1]", 96);
        count(EACH_KIND, KINDS.length);
    }

    private static void orderOfValues() {
        Check.sentence("They are numbered 0, 1, ..: first itself, then the values in its first part, in its second one, and so on.");
        Probe p = new Probe().put("[[10,[20],30],\"~z40\",[\"^ \",[50],60,70,[80]],90]");
        p.read(0);
        int[] kinds = {8, 8, 2, 8, 2, 2, 12, 4, 11, 8, 2, 2, 2, 8, 2, 2};
        long[] numbers = {0, 0, 10, 0, 20, 30, 0, 0, 0, 0, 50, 60, 70, 0, 80, 90};
        Check.due("values", p.x.values(0), kinds.length);
        for (int k = 0; k < kinds.length; k++) {
            Check.due("kind " + k, p.x.kind(0, k), kinds[k]);
            Check.due("number " + k, p.x.number(0, k), numbers[k]);
        }
    }

    private static void kinds() {
        Check.sentence("The kind of value k in a slot.");
        Probe p = eachKind();
        for (int k = 0; k < KINDS.length; k++) {
            Check.due("kind " + k, p.x.kind(1, k), KINDS[k]);
        }
    }

    private static void sizes() {
        Check.sentence("How many parts value k has (8 .. 12; of a MAP keys and values both), or how many characters its word has (4 .. 6); 0 for others.");
        Probe p = eachKind();
        for (int k = 0; k < SIZES.length; k++) {
            Check.due("size " + k, p.x.size(1, k), SIZES[k]);
        }
        size("\"\"", 0);
        size("\"" + "a".repeat(238) + "\"", 238);
        size("\"\\\"\\\\\"", 2);
        size("\"~~\"", 1);
        size("\"~:a\"", 1);
        size("\"~:" + "a".repeat(236) + "\"", 236);
        size("\"~z\"", 1);
        size("[\"~#" + "a".repeat(230) + "\",1]", 1);
        size("[]", 0);
        size("[1" + ",1".repeat(118) + "]", 119);
        size("[\"^ \"]", 0);
        size("[\"^ \",1,2,3,4]", 4);
    }

    private static void size(String text, int due) {
        Probe p = new Probe().put(text);
        p.read(0);
        Check.due("size of " + text, p.x.size(0, 0), due);
    }

    private static void numbers() {
        Check.sentence("The number of value k; 0 when it has none.");
        Probe p = eachKind();
        for (int k = 0; k < NUMBERS.length; k++) {
            Check.due("number " + k, p.x.number(1, k), NUMBERS[k]);
        }
        number("true", 1);
        number("false", 0);
        number("\"~?t\"", 1);
        number("\"~?f\"", 0);
        number("\"~c \"", 32);
        number("\"~c~\"", 126);
        number("\"123\"", 0);
        number("\"~:123\"", 0);
        for (long n : new long[] {Long.MAX_VALUE, Long.MIN_VALUE, 0, -1, 1L << 31, -(1L << 31), 1L << 32, 1L << 53}) {
            number(String.valueOf(n), n);
            number("\"~i" + n + "\"", n);
            number("\"~m" + n + "\"", n);
        }
    }

    private static void number(String text, long due) {
        Probe p = new Probe().put(text);
        p.read(0);
        Check.due("number of " + text, p.x.number(0, 0), due);
    }

    private static void letters() {
        Check.sentence("Character i of the word of value k (of a TAGGED one its TAG); NONE when it has none.");
        Probe p = eachKind();
        for (int k = 0; k < WORDS.length; k++) {
            for (int i = -1; i <= 4; i++) {
                int due = i >= 0 && i < WORDS[k].length() ? WORDS[k].charAt(i) : -1;
                Check.due("letter " + i + " of " + k, p.x.letter(1, k, i), due);
            }
            Check.due("first of all letters of " + k, p.x.letter(1, k, Edge.LEAST), -1);
            Check.due("last of all letters of " + k, p.x.letter(1, k, Edge.MOST), -1);
        }
        Probe q = new Probe().put("[\"" + "a".repeat(234) + "bc\"]");
        q.read(0);
        Check.due("letter 0", q.x.letter(0, 1, 0), (int) 'a');
        Check.due("letter 235", q.x.letter(0, 1, 235), (int) 'c');
        Check.due("letter 236", q.x.letter(0, 1, 236), -1);
        Probe r = new Probe().put("[\"ab\",\"\",\"cd\"]");
        r.read(0);
        Check.due("behind the first word", r.x.letter(0, 1, 2), -1);
        Check.due("before the third word", r.x.letter(0, 3, -1), -1);
        Check.due("of an empty word", r.x.letter(0, 2, 0), -1);
        Probe s = new Probe().put("\"~zab\"");
        s.read(0);
        Check.due("tag", s.x.letter(0, 0, 0), (int) 'z');
        Check.due("behind the tag", s.x.letter(0, 0, 1), -1);
        Check.due("its part", s.x.letter(0, 1, 1), (int) 'b');
        Check.due("behind its part", s.x.letter(0, 1, 2), -1);
    }

    private static void refuses(Probe p, int slot, int k) {
        String where = "(" + slot + ", " + k + ")";
        Edge.throwing("kind" + where, p, () -> p.x.kind(slot, k), Edge.NO_PLACE);
        Edge.throwing("size" + where, p, () -> p.x.size(slot, k), Edge.NO_PLACE);
        Edge.throwing("number" + where, p, () -> p.x.number(slot, k), Edge.NO_PLACE);
        Edge.throwing("letter" + where, p, () -> p.x.letter(slot, k, 0), Edge.NO_PLACE);
        Edge.throwing("letter -1 " + where, p, () -> p.x.letter(slot, k, -1), Edge.NO_PLACE);
    }

    private static void noSlot() {
        Check.sentence("IndexOutOfBoundsException when slot is not 0 or 1");
        for (int slot : Edge.NO_SLOTS) {
            Probe p = Edge.busy();
            Edge.throwing("values(" + slot + ")", p, () -> p.x.values(slot), Edge.NO_PLACE);
            refuses(Edge.busy(), slot, 0);
            refuses(Edge.busy(), slot, -1);
            refuses(new Probe(), slot, 0);
        }
    }

    private static void noValue() {
        Check.sentence("or it has no value k.");
        for (int slot = 0; slot < 2; slot++) {
            int count = Edge.busy().x.values(slot);
            for (int k : new int[] {-1, count, count + 1, 239, 240, 241, Edge.LEAST, Edge.MOST}) {
                refuses(Edge.busy(), slot, k);
            }
            for (int k : new int[] {0, 1, -1}) {
                refuses(new Probe(), slot, k);
            }
            Probe p = Edge.busy();
            int s = slot;
            Check.due("last kind", Probe.answer(() -> p.x.kind(s, count - 1)).matches("\\d+"), true);
            Check.due("first kind", Probe.answer(() -> p.x.kind(s, 0)).matches("\\d+"), true);
        }
        // Of a value that had more values before, only those that it has now are there.
        Probe p = new Probe().put("[1,2,3]");
        p.read(0);
        p.put("[1]").read(0);
        Check.due("last one", p.x.kind(0, 1), 2);
        refuses(p, 0, 2);
        p.put("x").read(0);
        Check.due("last one behind an error", p.x.kind(0, 1), 2);
        refuses(p, 0, 2);
        // Nor has a value anything of one that stood in its place before, in whichever read that was.
        String[] texts = {"[[1,2],\"word\",[\"~#tag\",3],\"~:key\",\"~ca\"]", "[[],[],[],[],[],[],[],[]]",
            "[true,null,\"\",true,null,\"~z\",5]"};
        String[] told = {"array(array(int 1, int 2), str 'word', tagged 'tag'(int 3), key 'key', char 97)",
            "array(" + "array(), ".repeat(7) + "array())",
            "array(bool 1, null, str '', bool 1, null, tagged 'z'(str ''), int 5)"};
        for (int order = 0; order < 81; order++) {
            Probe q = new Probe();
            for (int rest = order, i = 0; i < 4; rest /= 3, i++) {
                q.put(texts[rest % 3]).read(0);
                Check.due("read in order " + order, q.told(0), told[rest % 3]);
            }
            q.read(1);
            Check.due("same in order " + order, q.x.same(), true);
        }
    }

    private static void lookingChangesNothing() {
        Check.sentence("Nothing is promised beyond the answers and state changes described above");
        Probe p = Edge.busy();
        String state = p.state();
        for (int k = 0; k < 4; k++) {
            p.x.values(0);
            p.x.kind(0, k);
            p.x.size(1, k);
            p.x.number(0, k);
            p.x.letter(1, k, 0);
            p.x.length();
            p.x.at(k);
            p.x.same();
            p.x.fault();
        }
        Check.due("state", p.state(), state);
        Check.due("fault", p.x.fault(), 3);
    }
}
