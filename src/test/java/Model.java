import java.math.BigInteger;
import java.util.ArrayList;
import java.util.HashMap;
import java.util.LinkedHashSet;
import java.util.List;
import java.util.Map;
import java.util.Set;
import java.util.TreeSet;

/**
 * The document once more, as plainly as the Java library allows and without a thought for room: what
 * RollingTransit answers is compared with this. Answers are texts, exceptions their simple names.
 */
final class Model {
    /** A value; start is the place of its first character in the text that it was read from. */
    record Node(int kind, long number, String word, List<Node> parts, int start) {
        Node at(int place) {
            return new Node(kind, number, word, parts, place);
        }

        Node as(int otherKind) {
            return new Node(otherKind, number, word, parts, start);
        }

        /** Two values are same when these are equal. */
        String canon() {
            List<String> inner = new ArrayList<>();
            if (kind == 11) {
                for (int i = 0; i < parts.size(); i += 2) {
                    inner.add(parts.get(i).canon() + "=" + parts.get(i + 1).canon());
                }
            } else {
                parts.forEach(part -> inner.add(part.canon()));
            }
            if (kind == 10 || kind == 11) {
                inner.sort(null);
            }
            return kind + ":" + number + ":" + word.length() + ":" + word + inner;
        }

        void collect(List<Node> all) {
            all.add(this);
            parts.forEach(part -> part.collect(all));
        }

        List<Node> all() {
            List<Node> all = new ArrayList<>();
            collect(all);
            return all;
        }
    }

    /** An error in a text. */
    private static final class Fault extends RuntimeException {
        private static final long serialVersionUID = 1;
        final int place;

        Fault(int place) {
            this.place = place;
        }
    }

    private static final BigInteger LOW = BigInteger.valueOf(Long.MIN_VALUE);
    private static final BigInteger HIGH = BigInteger.valueOf(Long.MAX_VALUE);
    private static final String NO_SLOT = "IndexOutOfBoundsException";

    String text = "";
    final Node[] slots = new Node[2];
    int fault = -1;

    // ---- the calls

    String type(int w) {
        StringBuilder more = new StringBuilder();
        for (byte b : new byte[] {(byte) (w >> 24), (byte) (w >> 16), (byte) (w >> 8), (byte) w}) {
            if (b != 0) {
                if (b < 32 || b == 127) {
                    return "false";
                }
                more.append((char) b);
            }
        }
        if (text.length() + more.length() > 240) {
            return "false";
        }
        text += more;
        return "true";
    }

    String read(int slot) {
        if (slot != 0 && slot != 1) {
            return NO_SLOT;
        }
        try {
            slots[slot] = new Parser(text).whole();
            fault = -1;
            return values(slot);
        } catch (Fault f) {
            fault = f.place;
            return "IllegalArgumentException";
        }
    }

    String write(int slot) {
        if (slot != 0 && slot != 1) {
            return NO_SLOT;
        }
        if (slots[slot] == null) {
            return "IllegalStateException";
        }
        String out = new Printer().whole(slots[slot]);
        if (out.length() > 240 || deepest(out) > 8) {
            return "UnsupportedOperationException";
        }
        text = out;
        return String.valueOf(out.length());
    }

    String values(int slot) {
        if (slot != 0 && slot != 1) {
            return NO_SLOT;
        }
        return String.valueOf(slots[slot] == null ? 0 : slots[slot].all().size());
    }

    private Node find(int slot, int k) {
        if (slot != 0 && slot != 1 || slots[slot] == null) {
            return null;
        }
        List<Node> all = slots[slot].all();
        return k >= 0 && k < all.size() ? all.get(k) : null;
    }

    String kind(int slot, int k) {
        Node n = find(slot, k);
        return n == null ? NO_SLOT : String.valueOf(n.kind());
    }

    String size(int slot, int k) {
        Node n = find(slot, k);
        if (n == null) {
            return NO_SLOT;
        }
        return String.valueOf(n.kind() >= 8 ? n.parts().size() : n.word().length());
    }

    String number(int slot, int k) {
        Node n = find(slot, k);
        return n == null ? NO_SLOT : String.valueOf(n.number());
    }

    String letter(int slot, int k, int i) {
        Node n = find(slot, k);
        if (n == null) {
            return NO_SLOT;
        }
        return String.valueOf(i >= 0 && i < n.word().length() ? n.word().charAt(i) : -1);
    }

    String pick(int slot, int k) {
        Node n = find(slot, k);
        if (n == null) {
            return NO_SLOT;
        }
        slots[slot] = n;
        return values(slot);
    }

    String same() {
        if (slots[0] == null || slots[1] == null) {
            return String.valueOf(slots[0] == slots[1]);
        }
        return String.valueOf(slots[0].canon().equals(slots[1].canon()));
    }

    void swap() {
        Node first = slots[0];
        slots[0] = slots[1];
        slots[1] = first;
    }

    /** How many arrays stand in one another in a written text. */
    private static int deepest(String out) {
        int depth = 0;
        int most = 0;
        boolean inside = false;
        for (int i = 0; i < out.length(); i++) {
            char c = out.charAt(i);
            if (inside && c == '\\') {
                i++;
            } else if (c == '"') {
                inside = !inside;
            } else if (!inside && (c == '[' || c == ']')) {
                depth += c == '[' ? 1 : -1;
                most = Math.max(most, depth);
            }
        }
        return most;
    }

    private static boolean isNoted(String raw, boolean key) {
        return raw.length() > 3 && (key || raw.matches("~[:$#].*"));
    }

    // ---- reading

    private static final class Parser {
        final String text;
        int place = 0;
        int depth = 0;
        final Map<Integer, String> noted = new HashMap<>();

        Parser(String text) {
            this.text = text;
        }

        Node whole() {
            Node n = element(false);
            if (look() != '\n') {
                throw new Fault(place);
            }
            return n;
        }

        /** The next character that is no space; a line end, which no text has, at the end. */
        char look() {
            while (place < text.length() && text.charAt(place) == ' ') {
                place++;
            }
            return place < text.length() ? text.charAt(place) : '\n';
        }

        void pass(String allowed) {
            if (allowed.indexOf(look()) < 0) {
                throw new Fault(place);
            }
            place++;
        }

        Node element(boolean key) {
            char c = look();
            int start = place;
            switch (c) {
                case '[':
                    return array();
                case '"':
                    return meaning(string(key), start);
                case 'n':
                    name("null");
                    return new Node(0, 0, "", List.of(), start);
                case 't':
                    name("true");
                    return new Node(1, 1, "", List.of(), start);
                case 'f':
                    name("false");
                    return new Node(1, 0, "", List.of(), start);
                default:
                    return new Node(2, bare(), "", List.of(), start);
            }
        }

        void name(String name) {
            int same = 0;
            while (same < name.length() && text.startsWith(name.substring(0, same + 1), place)) {
                same++;
            }
            if (same < name.length()) {
                throw new Fault(place + same);
            }
            place += same;
        }

        long bare() {
            int end = place;
            if (text.startsWith("0", end)) {
                place++;
                return 0;
            }
            if (text.startsWith("-", end)) {
                end++;
            }
            if (end >= text.length() || "123456789".indexOf(text.charAt(end)) < 0) {
                throw new Fault(end);
            }
            while (end < text.length() && Character.isDigit(text.charAt(end))) {
                end++;
            }
            BigInteger all = new BigInteger(text.substring(place, end));
            if (all.compareTo(LOW) < 0 || all.compareTo(HIGH) > 0) {
                throw new Fault(place);
            }
            place = end;
            return all.longValue();
        }

        /** The raw word of a string, or the one that it stands for. */
        String string(boolean key) {
            int start = place;
            StringBuilder raw = new StringBuilder();
            place++;
            while (true) {
                if (place >= text.length()) {
                    throw new Fault(text.length());
                }
                char c = text.charAt(place++);
                if (c == '"') {
                    break;
                }
                if (c == '\\') {
                    if (place >= text.length() || "\"\\/".indexOf(text.charAt(place)) < 0) {
                        throw new Fault(place);
                    }
                    c = text.charAt(place++);
                }
                raw.append(c);
            }
            String word = raw.toString();
            if (word.matches("\\^[0-5]{1,2}")) {
                String known = noted.get(Integer.parseInt(word.substring(1), 6));
                if (known == null) {
                    throw new Fault(start);
                }
                return known;
            }
            if (isNoted(word, key)) {
                if (noted.size() == 24) {
                    noted.clear();
                }
                noted.put(noted.size(), word);
            }
            return word;
        }

        Node meaning(String raw, int start) {
            String rest = raw.length() < 2 ? "" : raw.substring(2);
            if (raw.isEmpty() || "~^`".indexOf(raw.charAt(0)) < 0) {
                return new Node(4, 0, raw, List.of(), start);
            }
            if (raw.matches("~[~^`].*")) {
                return new Node(4, 0, raw.substring(1), List.of(), start);
            }
            if (raw.equals("~_")) {
                return new Node(0, 0, "", List.of(), start);
            }
            if (raw.equals("~?t") || raw.equals("~?f")) {
                return new Node(1, raw.equals("~?t") ? 1 : 0, "", List.of(), start);
            }
            if (raw.matches("~[im](0|-?[1-9][0-9]{0,18})")) {
                BigInteger all = new BigInteger(rest);
                if (all.compareTo(LOW) >= 0 && all.compareTo(HIGH) <= 0) {
                    return new Node(raw.charAt(1) == 'i' ? 2 : 3, all.longValue(), "", List.of(), start);
                }
            }
            if (raw.matches("~[:$].+")) {
                return new Node(raw.charAt(1) == ':' ? 5 : 6, 0, rest, List.of(), start);
            }
            if (raw.matches("~c.")) {
                return new Node(7, raw.charAt(2), "", List.of(), start);
            }
            if (raw.matches("~[a-zA-Z&&[^imc]].*")) {
                Node part = new Node(4, 0, rest, List.of(), start);
                return new Node(12, 0, raw.substring(1, 2), List.of(part), start);
            }
            throw new Fault(start);
        }

        Node array() {
            int start = place;
            if (++depth > 8) {
                throw new Fault(start);
            }
            place++;
            Node made = inside(start);
            depth--;
            return made;
        }

        Node inside(int start) {
            List<Node> parts = new ArrayList<>();
            if (look() == ']') {
                place++;
                return new Node(8, 0, "", parts, start);
            }
            if (look() == '"') {
                int quote = place;
                String raw = string(false);
                if (raw.equals("^ ")) {
                    return map(parts, start);
                }
                if (raw.startsWith("~#") && raw.length() > 2) {
                    pass(",");
                    Node content = element(false);
                    pass("]");
                    return tagged(raw.substring(2), content).at(start);
                }
                parts.add(meaning(raw, quote));
            } else {
                parts.add(element(false));
            }
            while (more()) {
                parts.add(element(false));
            }
            return new Node(8, 0, "", parts, start);
        }

        boolean more() {
            pass(",]");
            return text.charAt(place - 1) == ',';
        }

        Node map(List<Node> parts, int start) {
            while (more()) {
                parts.add(element(true));
                pass(",");
                parts.add(element(false));
            }
            refuseTwins(parts, 2);
            return new Node(11, 0, "", parts, start);
        }

        Node tagged(String tag, Node content) {
            if (tag.equals("'")) {
                return content;
            }
            int kind = List.of("list", "set", "cmap").indexOf(tag) + 9;
            if (kind < 9) {
                return new Node(12, 0, tag, List.of(content), 0);
            }
            if (content.kind() != 8 || kind == 11 && content.parts().size() % 2 == 1) {
                throw new Fault(content.start());
            }
            if (kind != 9) {
                refuseTwins(content.parts(), kind - 9);
            }
            return content.as(kind);
        }

        static void refuseTwins(List<Node> parts, int step) {
            Set<String> met = new TreeSet<>();
            for (int i = 0; i < parts.size(); i += step) {
                if (!met.add(parts.get(i).canon())) {
                    throw new Fault(parts.get(i).start());
                }
            }
        }
    }

    // ---- writing

    private static final class Printer {
        final Set<String> noted = new LinkedHashSet<>();

        String whole(Node n) {
            return n.kind() < 8 ? "[\"~#'\"," + element(n, false) + "]" : element(n, false);
        }

        String element(Node n, boolean key) {
            switch (n.kind()) {
                case 8:
                    return array(n);
                case 9:
                    return "[" + string("~#list", false) + "," + array(n) + "]";
                case 10:
                    return "[" + string("~#set", false) + "," + array(n) + "]";
                case 11:
                    return map(n);
                case 12:
                    return "[" + string("~#" + n.word(), false) + "," + element(n.parts().get(0), false) + "]";
                default:
                    return simple(n, key);
            }
        }

        String array(Node n) {
            List<String> inner = new ArrayList<>();
            n.parts().forEach(part -> inner.add(element(part, false)));
            return "[" + String.join(",", inner) + "]";
        }

        String map(Node n) {
            for (int i = 0; i < n.parts().size(); i += 2) {
                if (n.parts().get(i).kind() > 7) {
                    return "[" + string("~#cmap", false) + "," + array(n) + "]";
                }
            }
            StringBuilder out = new StringBuilder("[\"^ \"");
            for (int i = 0; i < n.parts().size(); i++) {
                out.append(',').append(element(n.parts().get(i), i % 2 == 0));
            }
            return out.append(']').toString();
        }

        String simple(Node n, boolean key) {
            long limit = 1L << 53;
            switch (n.kind()) {
                case 0:
                    return key ? string("~_", true) : "null";
                case 1:
                    return key ? string(n.number() == 1 ? "~?t" : "~?f", true) : String.valueOf(n.number() == 1);
                case 2:
                    boolean bare = !key && n.number() >= -limit && n.number() <= limit;
                    return bare ? String.valueOf(n.number()) : string("~i" + n.number(), key);
                case 3:
                    return string("~m" + n.number(), key);
                case 4:
                    return string(n.word().matches("[~^`].*") ? "~" + n.word() : n.word(), key);
                case 5:
                    return string("~:" + n.word(), key);
                case 6:
                    return string("~$" + n.word(), key);
                default:
                    return string("~c" + (char) n.number(), key);
            }
        }

        String string(String raw, boolean key) {
            if (isNoted(raw, key)) {
                int code = new ArrayList<>(noted).indexOf(raw);
                if (code >= 0) {
                    return "\"^" + Integer.toString(code, 6) + "\"";
                }
                if (noted.size() == 24) {
                    noted.clear();
                }
                noted.add(raw);
            }
            return "\"" + raw.replace("\\", "\\\\").replace("\"", "\\\"") + "\"";
        }
    }
}
