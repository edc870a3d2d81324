/** Promises 9 to 13: values, kind, size, number, letter. */
public final class LookTest {
    private static final String TEXT =
            "[[\"~#set\",[\"ab\",\"~zxyz\"]],[\"^ \",\"~:key\",\"~m-7\"],[\"~#foo\",\"~cA\"],\"~$s\",null,true,[\"~#list\",[]]]";

    public static void main(String[] args) {
        numbering();
        wrongPlaces();
        emptySlot();
        letters();
        Check.end();
    }

    private static void numbering() {
        Probe p = new Probe().put(TEXT);
        Check.due("read", p.read(1), "14");
        Check.due("values(1)", p.x.values(1), 14);
        Check.due("values(0)", p.x.values(0), 0);
        int[] kinds = {8, 10, 4, 12, 4, 11, 5, 3, 12, 7, 6, 0, 1, 9};
        int[] sizes = {7, 2, 2, 1, 3, 2, 3, 0, 1, 0, 1, 0, 0, 0};
        long[] numbers = {0, 0, 0, 0, 0, 0, 0, -7, 0, 65, 0, 0, 1, 0};
        int[] firsts = {-1, -1, 'a', 'z', 'x', -1, 'k', -1, 'f', -1, 's', -1, -1, -1};
        for (int k = 0; k < kinds.length; k++) {
            Check.due("kind " + k, p.x.kind(1, k), kinds[k]);
            Check.due("size " + k, p.x.size(1, k), sizes[k]);
            Check.due("number " + k, p.x.number(1, k), numbers[k]);
            Check.due("letter " + k, p.x.letter(1, k, 0), firsts[k]);
        }
    }

    private static void wrongPlaces() {
        Probe p = new Probe().put(TEXT);
        p.read(1);
        int[][] wrong = {{2, 0}, {-1, 0}, {1, -1}, {1, 14}, {0, 0}, {1, Integer.MAX_VALUE},
            {1, Integer.MIN_VALUE}, {Integer.MAX_VALUE, 0}};
        for (int[] w : wrong) {
            refused(p, w[0], w[1]);
        }
        Check.due("values(2)", Probe.answer(() -> p.x.values(2)), "IndexOutOfBoundsException");
        Check.due("values(-1)", Probe.answer(() -> p.x.values(-1)), "IndexOutOfBoundsException");
        Check.due("all stays", p.x.values(1), 14);
    }

    private static void refused(Probe p, int slot, int k) {
        String at = "(" + slot + ", " + k + ")";
        String due = "IndexOutOfBoundsException";
        Check.due("kind" + at, Probe.answer(() -> p.x.kind(slot, k)), due);
        Check.due("size" + at, Probe.answer(() -> p.x.size(slot, k)), due);
        Check.due("number" + at, Probe.answer(() -> p.x.number(slot, k)), due);
        Check.due("letter" + at, Probe.answer(() -> p.x.letter(slot, k, 0)), due);
        Check.due("pick" + at, Probe.answer(() -> p.x.pick(slot, k)), due);
    }

    private static void emptySlot() {
        Probe p = new Probe();
        refused(p, 0, 0);
        refused(p, 1, 0);
        Check.due("values(0)", p.x.values(0), 0);
    }

    private static void letters() {
        Probe p = new Probe().put("[\"a\\\\b\"]");
        p.read(0);
        Check.due("word with a backslash", p.x.size(0, 1), 3);
        Check.due("the backslash", p.x.letter(0, 1, 1), (int) '\\');
        Check.due("its last letter", p.x.letter(0, 1, 2), (int) 'b');
        Check.due("behind it", p.x.letter(0, 1, 3), -1);
        Check.due("before it", p.x.letter(0, 1, -1), -1);
        Check.due("far behind it", p.x.letter(0, 1, Integer.MAX_VALUE), -1);
        Check.due("far before it", p.x.letter(0, 1, Integer.MIN_VALUE), -1);
        p.put("[\"~#foo\",1]").read(0);
        Check.due("size of a TAGGED", p.x.size(0, 0), 1);
        Check.due("third letter of a tag", p.x.letter(0, 0, 2), (int) 'o');
        Check.due("fourth letter of a tag", p.x.letter(0, 0, 3), -1);
    }
}
