/** The boundary cases of promises 1 to 5, and of what the terms say of the text and the slots. */
public final class EdgeTextTest {
    private static final int ROOM = 240;

    public static void main(String[] args) {
        emptyAtFirst();
        objectsOfTheirOwn();
        bytesInOrder();
        charactersTaken();
        noRoomForAll();
        mostCharacters();
        wipedText();
        lengths();
        characterPlaces();
        Check.end();
    }

    private static void emptyAtFirst() {
        Check.sentence("An empty text, empty slots.");
        Probe p = new Probe();
        Check.due("NONE", RollingTransit.NONE, -1);
        Check.due("state", p.state(), "text  slot 0 empty slot 1 empty same true");
        Check.due("fault", p.x.fault(), -1);
        Check.due("at(0)", p.x.at(0), -1);
        for (int slot = 0; slot < 2; slot++) {
            int s = slot;
            Check.due("values", p.x.values(s), 0);
            Edge.throwing("write", p, () -> p.x.write(s), Edge.EMPTY);
            Edge.throwing("kind", p, () -> p.x.kind(s, 0), Edge.NO_PLACE);
            Edge.throwing("size", p, () -> p.x.size(s, 0), Edge.NO_PLACE);
            Edge.throwing("number", p, () -> p.x.number(s, 0), Edge.NO_PLACE);
            Edge.throwing("letter", p, () -> p.x.letter(s, 0, 0), Edge.NO_PLACE);
            Edge.throwing("pick", p, () -> p.x.pick(s, 0), Edge.NO_PLACE);
        }
        p.x.wipe();
        p.x.swap();
        Check.due("state behind wipe and swap", p.state(), "text  slot 0 empty slot 1 empty same true");
        Check.due("read of an empty text", p.read(0), Edge.WRONG_TEXT);
        Check.due("its fault", p.x.fault(), 0);
    }

    private static void objectsOfTheirOwn() {
        Check.sentence("An empty text, empty slots.", "beside an object that has both");
        Probe old = Edge.busy();
        String state = old.state();
        Probe p = new Probe();
        Check.due("state of the new one", p.state(), "text  slot 0 empty slot 1 empty same true");
        Check.due("fault of the new one", p.x.fault(), -1);
        p.put("[5]").read(0);
        p.written(0);
        Check.due("state of the old one", old.state(), state);
        Check.due("fault of the old one", old.x.fault(), 3);
    }

    private static void bytesInOrder() {
        Check.sentence("the bytes of w other than 0 (perhaps none), the highest first: true.");
        for (int mask = 0; mask < 16; mask++) {
            int w = 0;
            StringBuilder due = new StringBuilder("+");
            for (int b = 0; b < 4; b++) {
                if ((mask & 1 << b) != 0) {
                    w |= ('a' + b) << 24 - 8 * b;
                    due.append((char) ('a' + b));
                }
            }
            Probe p = new Probe().put("+");
            Check.due("type(" + w + ")", p.x.type(w), true);
            Check.due("text behind type(" + w + ")", p.text(), due.toString());
        }
    }

    private static void charactersTaken() {
        Check.sentence("False, changing nothing, when one of these is not 32 .. 126");
        for (int c = 1; c < 256; c++) {
            boolean fine = c >= 32 && c <= 126;
            for (int shift = 0; shift < 32; shift += 8) {
                int others = 0x61626364 & ~(255 << shift);
                typed(c << shift, fine);
                typed(c << shift | others, fine);
            }
        }
        typed(-1, false);
        typed(Edge.LEAST, false);
        typed(Edge.MOST, false);
        typed(0x20202020, true);
        typed(0x7E7E7E7E, true);
        typed(0x7F7F7F7F, false);
        typed(0x1F1F1F1F, false);
    }

    private static void typed(int w, boolean due) {
        Probe p = new Probe().put("ab");
        Check.due("type(" + w + ")", p.x.type(w), due);
        StringBuilder text = new StringBuilder("ab");
        for (int shift = 24; shift >= 0 && due; shift -= 8) {
            int c = w >>> shift & 255;
            text.append(c == 0 ? "" : String.valueOf((char) c));
        }
        Check.due("text behind type(" + w + ")", p.text(), text.toString());
    }

    private static void noRoomForAll() {
        Check.sentence("False, changing nothing, when [..] there is no room for all.");
        int[] words = {0, 'a', 'a' << 24 | 'b', 'a' << 16 | 'b' << 8 | 'c', 0x61626364};
        for (int room = 0; room <= 4; room++) {
            for (int count = 0; count <= 4; count++) {
                String before = "x".repeat(ROOM - room);
                Probe p = new Probe().put(before);
                String what = count + " characters where there is room for " + room;
                Check.due(what, p.x.type(words[count]), count <= room);
                String more = count <= room ? "abcd".substring(0, count) : "";
                Check.due("text behind " + what, p.text(), before + more);
            }
        }
        Probe full = new Probe().put("x".repeat(ROOM));
        Check.due("wrong and no room", full.x.type(127), false);
        Check.due("length behind it", full.x.length(), ROOM);
    }

    private static void mostCharacters() {
        Check.sentence("The TEXT has at most 240 of them, at places 0, 1, .. .");
        Probe p = new Probe();
        for (int k = 0; k < ROOM; k++) {
            p.x.type(32 + k % 95);
        }
        Check.due("length", p.x.length(), ROOM);
        Check.due("one more", p.x.type(' '), false);
        Check.due("length still", p.x.length(), ROOM);
        Probe q = new Probe();
        for (int k = 0; k < ROOM; k++) {
            q.x.type(32 + k % 95);
        }
        for (int k = 0; k < ROOM; k++) {
            Check.due("at(" + k + ")", q.x.at(k), 32 + k % 95);
        }
        Check.due("at(240)", q.x.at(ROOM), -1);
        // A text that was written has the same room as one that was typed.
        Probe w = new Probe().put(Edge.quoted("a".repeat(229)));
        w.read(0);
        Check.due("written", w.x.write(0), 239);
        Check.due("two where there is room for one", w.x.type('a' << 8 | 'b'), false);
        Check.due("one where there is room for one", w.x.type('c'), true);
        Check.due("one where there is no room", w.x.type('d'), false);
        Check.due("all of it", w.text(), "[\"~#'\",\"" + "a".repeat(229) + "\"]c");
    }

    private static void wipedText() {
        Check.sentence("The text becomes empty.");
        Probe p = Edge.busy();
        String state = p.state();
        p.x.wipe();
        Check.due("state", p.state(), state.replace("text [1,x", "text "));
        Check.due("fault", p.x.fault(), 3);
        Check.due("at(0)", p.x.at(0), -1);
        p.x.wipe();
        Check.due("wiped again", p.x.length(), 0);
        Check.due("read of nothing", p.read(0), Edge.WRONG_TEXT);
        Check.due("its fault", p.x.fault(), 0);
        Probe full = new Probe().put("y".repeat(ROOM));
        full.x.wipe();
        Check.due("full one wiped", full.x.length(), 0);
        Check.due("at(239)", full.x.at(239), -1);
        Check.due("full again", full.put("z".repeat(ROOM)).x.length(), ROOM);
        Check.due("and no more", full.x.type('z'), false);
    }

    private static void lengths() {
        Check.sentence("The number of characters of the text.");
        Probe p = new Probe();
        Check.due("of none", p.x.length(), 0);
        p.x.type(0);
        Check.due("of none still", p.x.length(), 0);
        p.x.type(' ');
        Check.due("of a space", p.x.length(), 1);
        p.x.type(31);
        Check.due("behind a wrong one", p.x.length(), 1);
        p.put("[1]" + " ".repeat(237)).read(0);
        Check.due("of a full text", p.x.length(), ROOM);
        p.x.write(0);
        Check.due("of a written text", p.x.length(), 3);
        Check.due("behind it there is nothing", p.x.at(3), -1);
    }

    private static void characterPlaces() {
        Check.sentence("Character k of the text; NONE when there is none.");
        Probe p = new Probe().put("[\"~\"]");
        int[] places = {0, 1, 2, 3, 4, -1, 5, 239, 240, 256, Edge.MOST, Edge.LEAST};
        int[] due = {'[', '"', '~', '"', ']', -1, -1, -1, -1, -1, -1, -1};
        for (int i = 0; i < places.length; i++) {
            Check.due("at(" + places[i] + ")", p.x.at(places[i]), due[i]);
        }
    }
}
