/** Promises 1 to 5: a new object, type, wipe, length, at. */
public final class TextTest {
    public static void main(String[] args) {
        newObject();
        typing();
        wrongCharacters();
        room();
        wiping();
        Check.end();
    }

    private static void newObject() {
        RollingTransit x = new RollingTransit();
        Check.due("NONE", RollingTransit.NONE, -1);
        Check.due("new length", x.length(), 0);
        Check.due("new at(0)", x.at(0), -1);
        Check.due("new values(0)", x.values(0), 0);
        Check.due("new values(1)", x.values(1), 0);
        Check.due("new fault", x.fault(), -1);
        Check.due("new same", x.same(), true);
    }

    private static void typing() {
        Probe p = new Probe();
        Check.due("type(0)", p.x.type(0), true);
        Check.due("after type(0)", p.text(), "");
        Check.due("type a", p.x.type('a'), true);
        Check.due("type four", p.x.type('b' << 24 | 'c' << 16 | 'd' << 8 | 'e'), true);
        Check.due("type with gaps", p.x.type('f' << 24 | 'g' << 8), true);
        Check.due("type edges", p.x.type(32 << 16 | 126), true);
        Check.due("typed", p.text(), "abcdefg ~");
        Check.due("length", p.x.length(), 9);
        Check.due("at(-1)", p.x.at(-1), -1);
        Check.due("at(8)", p.x.at(8), 126);
        Check.due("at(9)", p.x.at(9), -1);
        Check.due("at(most)", p.x.at(Integer.MAX_VALUE), -1);
        Check.due("at(least)", p.x.at(Integer.MIN_VALUE), -1);
    }

    private static void wrongCharacters() {
        Probe p = new Probe().put("ab");
        int[] wrong = {31, 127, 128, 255, 1, -1, Integer.MIN_VALUE, 'a' << 24 | 127, 'a' << 8 | 31};
        for (int w : wrong) {
            Check.due("type(" + w + ")", p.x.type(w), false);
            Check.due("text behind type(" + w + ")", p.text(), "ab");
        }
    }

    private static void room() {
        Probe p = new Probe().put("x".repeat(238));
        Check.due("three into two", p.x.type(Probe.packed("abc", 0)), false);
        Check.due("still 238", p.x.length(), 238);
        Check.due("two into two", p.x.type('a' << 24 | 'b'), true);
        Check.due("240", p.x.length(), 240);
        Check.due("at(239)", p.x.at(239), (int) 'b');
        Check.due("at(240)", p.x.at(240), -1);
        Check.due("one into none", p.x.type('c'), false);
        Check.due("none into none", p.x.type(0), true);
        Check.due("wrong into none", p.x.type(7), false);
        Check.due("text stays", p.text(), "x".repeat(238) + "ab");
    }

    private static void wiping() {
        Probe p = new Probe().put("[1]");
        p.read(0);
        p.x.wipe();
        Check.due("length behind wipe", p.x.length(), 0);
        Check.due("at behind wipe", p.x.at(0), -1);
        Check.due("wipe leaves slots", p.told(0), "array(int 1)");
        p.put("z");
        Check.due("typed behind wipe", p.text(), "z");
    }
}
