import java.util.ArrayList;
import java.util.List;

/** The boundary cases of calls as such: those that throw, and the 512th one. */
public final class EdgeCallTest {
    private static final int CALLS = 512;
    private static final String TOO_LONG = "[" + "\"~z\",".repeat(47) + "1]";
    private static final String TOO_DEEP = "[[[[[[[[\"~zx\"]]]]]]]]";

    public static void main(String[] args) {
        firstNamed();
        nothingIsChanged();
        refusedWrites();
        lastCall();
        lastCallOfMany();
        Check.end();
    }

    private static void firstNamed() {
        Check.sentence("where several exceptions fit, the one named first is thrown.");
        for (int slot : Edge.NO_SLOTS) {
            Probe fresh = new Probe();
            Edge.throwing("read of an empty text, no slot " + slot, fresh, () -> fresh.x.read(slot), Edge.NO_PLACE);
            Edge.throwing("write of an empty slot, no slot " + slot, fresh, () -> fresh.x.write(slot), Edge.NO_PLACE);
            Probe p = new Probe().put(TOO_DEEP);
            p.read(0);
            p.read(1);
            p.put("[1,x");
            Edge.throwing("read of a wrong text, no slot " + slot, p, () -> p.x.read(slot), Edge.NO_PLACE);
            Edge.throwing("write of too deep ones, no slot " + slot, p, () -> p.x.write(slot), Edge.NO_PLACE);
        }
    }

    /** Calls that all throw or answer false, and so change nothing but what fault answers. */
    private static void refusals(Probe p, boolean wrongText) {
        for (int slot : new int[] {-1, 2}) {
            Probe.answer(() -> p.x.read(slot));
            Probe.answer(() -> p.x.write(slot));
            Probe.answer(() -> p.x.values(slot));
            Probe.answer(() -> p.x.kind(slot, 0));
            Probe.answer(() -> p.x.pick(slot, 0));
        }
        for (int slot = 0; slot < 2; slot++) {
            int s = slot;
            int count = p.x.values(slot);
            Probe.answer(() -> p.x.size(s, count));
            Probe.answer(() -> p.x.number(s, -1));
            Probe.answer(() -> p.x.letter(s, count, 0));
            Probe.answer(() -> p.x.pick(s, count));
            if (count == 0) {
                Probe.answer(() -> p.x.write(s));
            }
            if (wrongText) {
                Check.due("read of a wrong text", p.read(s), Edge.WRONG_TEXT);
            }
        }
        p.x.type(127);
    }

    /** One run of calls, with or without refused ones between them: all that is seen in it. */
    private static List<String> run(boolean refusing) {
        List<String> seen = new ArrayList<>();
        String[] texts = {"[\"~:key\",\"^0\",[1,2]]", "[\"~#set\",[\"~:ab\",[\"^ \",\"name\",\"^1\"]]]", "\"~zabc\"", "5"};
        for (String text : texts) {
            Probe p = new Probe();
            runOne(p, text, refusing, seen);
        }
        return seen;
    }

    private static void runOne(Probe p, String text, boolean refusing, List<String> seen) {
        for (int i = 0; i < text.length(); i++) {
            p.x.type(text.charAt(i));
            // Each part of these texts but the whole is no text of its own.
            if (refusing && i == text.length() / 2) {
                refusals(p, i < text.length() - 1);
            }
        }
        seen.add(p.read(0));
        refuse(p, refusing);
        seen.add(p.told(0));
        seen.add(p.written(0));
        refuse(p, refusing);
        seen.add(p.read(1));
        seen.add(String.valueOf(p.x.same()));
        seen.add(Probe.answer(() -> p.x.pick(1, p.x.values(1) - 1)));
        refuse(p, refusing);
        p.x.swap();
        seen.add(p.state());
        refuse(p, refusing);
        seen.add(p.written(0));
        seen.add(p.written(1));
        seen.add(p.state() + p.x.fault());
    }

    private static void refuse(Probe p, boolean refusing) {
        if (refusing) {
            refusals(p, false);
        }
    }

    private static void nothingIsChanged() {
        Check.sentence("A call that throws changes nothing (but what fault answers)");
        Check.due("a run with refused calls in it", run(true), run(false));
    }

    private static void refusedWrites() {
        Check.sentence("A call that throws changes nothing", "write");
        for (String text : new String[] {TOO_LONG, TOO_DEEP}) {
            Probe p = new Probe().put(text);
            p.read(0);
            p.put("[\"~:ab\",\"~:ab\",1]").read(1);
            for (int i = 0; i < 3; i++) {
                Edge.throwing("write", p, () -> p.x.write(0), Edge.TOO_MUCH);
                Check.due("the other one", p.written(1), "[\"~:ab\",\"^0\",1]");
            }
            Edge.throwing("write", p, () -> p.x.write(0), Edge.TOO_MUCH);
            Check.due("typed behind it", p.x.type('x'), true);
            Edge.throwing("write", p, () -> p.x.write(0), Edge.TOO_MUCH);
            Check.due("text", p.text(), "[\"~:ab\",\"^0\",1]x");
        }
    }

    private static void lastCall() {
        Check.sentence("An object is used for at most 512 calls after it has been made");
        Probe reads = new Probe();
        String text = "[\"" + "w".repeat(228) + "\",12345]";
        reads.put(text);
        int used = 1 + text.length() / 4 + (text.length() % 4 > 0 ? 1 : 0);
        for (int call = used; call < CALLS; call += 2) {
            Check.due("read before call " + call, reads.x.read(call / 2 % 2), 3);
            Check.due("write before call " + call, reads.x.write(call / 2 % 2), text.length());
        }
        Check.due("text in the end", reads.text(), text);
        Probe noting = new Probe();
        String words = "[\"~:" + "w".repeat(150) + "\",\"^0\",[\"~#tag\",1],[\"^1\",2]]";
        noting.put(words).read(0);
        for (int call = 100; call < CALLS; call++) {
            Check.due("write in call " + call, noting.x.write(0), words.length());
        }
        Check.due("words in the end", noting.text(), words);
        Probe refused = new Probe().put("[\"abcd");
        for (int call = 3; call < CALLS; call++) {
            Check.due("refused call " + call, refused.read(call % 2), Edge.WRONG_TEXT);
        }
        refused.put("[7]");
        Check.due("read in the end", refused.read(0), "2");
        Probe typed = new Probe();
        for (int call = 0; call < CALLS; call++) {
            Check.due("type in call " + call, typed.x.type('a'), call < 240);
        }
        Check.due("length in the end", typed.x.length(), 240);
    }

    private static void lastCallOfMany() {
        Check.sentence("An object is used for at most 512 calls", "each with words of its own");
        Probe p = new Probe();
        // A round takes seven calls at most, so that some are left to look at what is there in the end.
        for (int round = 0; round < 64; round++) {
            String text = "[\"~:" + round + "key\",\"" + round + "\"]";
            p.put(text);
            Check.due("read of " + text, p.x.read(round % 2), 3);
            Check.due("letter of " + text, p.x.letter(round % 2, 1, 0), (int) text.charAt(4));
        }
        Check.due("last ones", p.told(0) + p.told(1), "array(key '62key', str '62')array(key '63key', str '63')");
    }
}
