/** The boundary cases of promise 6, read, as a call: what it answers, changes and leaves. */
public final class EdgeReadTest {
    private static final String SMALL = "null";
    private static final String LARGE = "[1" + ",1".repeat(118) + "]";
    private static final String LONG = "[\"" + "w".repeat(236) + "\"]";
    private static final String[] TEXTS = {SMALL, LARGE, LONG, "[]", "\"~z\"", "[\"~#set\",[\"ab\",\"cd\"]]"};
    private static final String[] COUNTS = {"1", "120", "2", "1", "2", "3"};
    private static final String[] WRONG = {"", "x", "[", "[1,\"ab\",[2,\"~:cd\"]", "[\"~#set\",[1,2,1]]", "[1,2]]"};

    public static void main(String[] args) {
        theSlotGets();
        theTextStays();
        howManyValues();
        noSlot();
        anError();
        Check.end();
    }

    private static String told(String text) {
        Probe p = new Probe().put(text);
        p.read(0);
        return p.told(0);
    }

    private static void theSlotGets() {
        Check.sentence("The slot gets the value that the text (which stays) means");
        for (String before : TEXTS) {
            for (String text : TEXTS) {
                for (int slot = 0; slot < 2; slot++) {
                    Probe p = new Probe().put(before);
                    p.read(0);
                    p.read(1);
                    p.put(text).read(slot);
                    Check.due("slot behind " + before + " and " + text, p.told(slot), told(text));
                    Check.due("other slot behind " + before + " and " + text, p.told(1 - slot), told(before));
                }
            }
        }
    }

    private static void theTextStays() {
        Check.sentence("the text (which stays)");
        for (String text : TEXTS) {
            Probe p = new Probe().put(text);
            p.read(0);
            Check.due("text behind a read", p.text(), text);
            p.read(1);
            Check.due("same, as it was read twice", p.x.same(), true);
        }
        // What is typed later is no part of the value, and is read with what was there before.
        Probe p = new Probe().put("[1]");
        p.read(0);
        p.x.type(' ');
        p.x.type(' ');
        Check.due("read with spaces behind it", p.read(1), "2");
        p.x.type('7');
        Check.due("read with a number behind it", p.read(1), Edge.WRONG_TEXT);
        Check.due("its fault", p.x.fault(), 5);
        Check.due("slots", p.told(0) + p.told(1), "array(int 1)array(int 1)");
    }

    private static void howManyValues() {
        Check.sentence("answers how many values are in it, with itself, its parts, their parts and so on.");
        for (int i = 0; i < TEXTS.length; i++) {
            Check.due("read of " + TEXTS[i], new Probe().put(TEXTS[i]).read(0), COUNTS[i]);
            Check.due("read again of " + TEXTS[i], Edge.busy().put(TEXTS[i]).read(1), COUNTS[i]);
        }
    }

    private static void noSlot() {
        Check.sentence("IndexOutOfBoundsException when slot is not 0 or 1");
        for (int slot : Edge.NO_SLOTS) {
            for (String text : new String[] {"[5]", "[5", ""}) {
                Probe p = Edge.busy().put(text);
                Edge.throwing("read(" + slot + ") of " + text, p, () -> p.x.read(slot), Edge.NO_PLACE);
                Probe fresh = new Probe().put(text);
                Edge.throwing("read(" + slot + ") of " + text, fresh, () -> fresh.x.read(slot), Edge.NO_PLACE);
            }
        }
        Check.due("read(0)", new Probe().put("[5]").read(0), "2");
        Check.due("read(1)", new Probe().put("[5]").read(1), "2");
    }

    private static void anError() {
        Check.sentence("IllegalArgumentException when there is an error.");
        for (String before : TEXTS) {
            for (String wrong : WRONG) {
                for (int slot = 0; slot < 2; slot++) {
                    Probe p = new Probe().put(before);
                    p.read(slot);
                    p.put(wrong);
                    Check.due("read of " + wrong, p.read(0), Edge.WRONG_TEXT);
                    Check.due("read of " + wrong, p.read(1), Edge.WRONG_TEXT);
                    Check.due("text behind " + wrong, p.text(), wrong);
                    Check.due("slot behind " + wrong, p.told(slot), told(before));
                    Check.due("empty slot behind " + wrong, p.told(1 - slot), "empty");
                    Check.due("read behind " + wrong, p.put("[\"ok\"]").read(slot), "2");
                    Check.due("slot behind that", p.told(slot), "array(str 'ok')");
                }
            }
        }
    }
}
