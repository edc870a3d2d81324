/** What the tests of boundary cases share: texts and calls that are just taken or just refused. */
final class Edge {
    static final String NO_PLACE = "IndexOutOfBoundsException";
    static final String WRONG_TEXT = "IllegalArgumentException";
    static final String EMPTY = "IllegalStateException";
    static final String TOO_MUCH = "UnsupportedOperationException";
    static final int LEAST = Integer.MIN_VALUE;
    static final int MOST = Integer.MAX_VALUE;
    static final int[] NO_SLOTS = {-1, 2, LEAST, MOST, 256, -2};

    private Edge() {
    }

    /** An object that has a text, two values and a fault, so that every change of them is seen. */
    static Probe busy() {
        Probe p = new Probe();
        p.put("[\"ab\",[\"^ \",\"name\",1]]").read(0);
        p.put("[\"~#set\",[2,\"~zx\"]]").read(1);
        p.put("[1,x").read(1);
        return p;
    }

    /** A text that is read, as all that it means is told; slots, text and fault are as they must be. */
    static void taken(String text, String told) {
        Probe p = busy();
        String other = p.told(1);
        p.put(text);
        String answer = p.read(0);
        Check.due("read of " + text, answer, String.valueOf(p.x.values(0)));
        Check.due("meaning of " + text, p.told(0), told);
        Check.due("fault of " + text, p.x.fault(), RollingTransit.NONE);
        Check.due("text stays " + text, p.text(), text);
        Check.due("other slot stays " + text, p.told(1), other);
    }

    static void taken(String text) {
        Check.due("read of " + text, new Probe().put(text).read(0).matches("\\d+"), true);
    }

    /** A text that is refused with a fault, and the refusal changes nothing else in the object. */
    static void refused(String text, int place) {
        Probe p = busy().put(text);
        String state = p.state();
        Check.due("read of " + text, p.read(0), WRONG_TEXT);
        Check.due("fault of " + text, p.x.fault(), place);
        Check.due("state behind " + text, p.state(), state);
        Probe fresh = new Probe().put(text);
        Check.due("first read of " + text, fresh.read(1), WRONG_TEXT);
        Check.due("fault of the first read of " + text, fresh.x.fault(), place);
        Check.due("slots behind the first read of " + text, fresh.told(0) + fresh.told(1), "emptyempty");
    }

    static void refused(String text, String place) {
        refused(text, Integer.parseInt(place));
    }

    /** A call that throws, and changes nothing, not even what fault answers. */
    static void throwing(String what, Probe p, Probe.Call call, String exception) {
        String state = p.state();
        int fault = p.x.fault();
        Check.due(what, Probe.answer(call), exception);
        Check.due("fault behind " + what, p.x.fault(), fault);
        Check.due("state behind " + what, p.state(), state);
    }

    /** What is written for a text's value; the text is read again into the other slot, and is same. */
    static void written(String text, String due) {
        Probe p = new Probe().put(text);
        Check.due("read of " + text, p.read(0).matches("\\d+"), true);
        Check.due("written for " + text, p.written(0), due);
        Check.due("read of what is written for " + text, p.read(1), String.valueOf(p.x.values(0)));
        Check.due("same as what was written for " + text, p.x.same(), true);
        Check.due("written again for " + text, p.written(1), due);
    }

    /** A value that can't be written: the text stays, and so do both slots and the fault. */
    static void unwritten(String text) {
        Probe p = busy().put(text);
        Check.due("read of " + text, p.read(0).matches("\\d+"), true);
        p.put("[1,x").read(1);
        throwing("write for " + text, p, () -> p.x.write(0), TOO_MUCH);
        Check.due("other slot behind write for " + text, p.written(1), "[\"~#set\",[2,[\"~#z\",\"x\"]]]");
    }

    /** A character as it stands in a string. */
    static String escaped(int c) {
        return (c == '"' || c == '\\' ? "\\" : "") + (char) c;
    }

    static String quoted(String inner) {
        return "\"" + inner + "\"";
    }

    /** The code of a number, as one is written. */
    static String code(int number) {
        return quoted("^" + Integer.toString(number, 6));
    }

    /** A keyword of four characters, so one that is noted; there are 26 of them. */
    static String keyword(int i) {
        return quoted("~:" + (char) ('a' + i) + "x");
    }

    /** So many keywords, all different, with commas between them. */
    static String keywords(int count) {
        StringBuilder all = new StringBuilder();
        for (int i = 0; i < count; i++) {
            all.append(i > 0 ? "," : "").append(keyword(i));
        }
        return all.toString();
    }
}
