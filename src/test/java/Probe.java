/** Calls a RollingTransit with whole texts, and tells its answers and exceptions as texts. */
final class Probe {
    final RollingTransit x = new RollingTransit();

    interface Call {
        Object run();
    }

    interface Row {
        void look(String text, String due);
    }

    /** Looks at every line of a table, in which a text and what is due stand round an arrow. */
    static void eachRow(String table, Row row) {
        for (String line : table.split("\n")) {
            int arrow = line.lastIndexOf(" => ");
            if (arrow < 0) {
                throw new AssertionError("no arrow in " + line);
            }
            row.look(line.substring(0, arrow), line.substring(arrow + 4));
        }
    }

    /** What a call answers, or the simple name of what it throws. */
    static String answer(Call call) {
        try {
            return String.valueOf(call.run());
        } catch (RuntimeException e) {
            return e.getClass().getSimpleName();
        }
    }

    /** Four characters of a text as the number that type takes. */
    static int packed(String text, int from) {
        int w = 0;
        for (int i = from; i < Math.min(text.length(), from + 4); i++) {
            w = w << 8 | text.charAt(i);
        }
        return w;
    }

    Probe put(String text) {
        x.wipe();
        for (int i = 0; i < text.length(); i += 4) {
            if (!x.type(packed(text, i))) {
                throw new AssertionError("no room to type " + text);
            }
        }
        return this;
    }

    String text() {
        StringBuilder all = new StringBuilder();
        int length = x.length();
        for (int k = 0; k < length; k++) {
            all.append((char) x.at(k));
        }
        return all.toString();
    }

    /** All that can be seen of an object but what fault answers. */
    String state() {
        return "text " + text() + " slot 0 " + told(0) + " slot 1 " + told(1) + " same " + x.same();
    }

    String read(int slot) {
        return answer(() -> x.read(slot));
    }

    /** The text that is written for a slot, or the name of what write throws. */
    String written(int slot) {
        String answer = answer(() -> x.write(slot));
        if (!Character.isDigit(answer.charAt(0))) {
            return answer;
        }
        Check.due("length behind write", String.valueOf(x.length()), answer);
        return text();
    }

    /** All that is in a slot, told by values, kind, size, number and letter alone. */
    String told(int slot) {
        if (x.values(slot) == 0) {
            return "empty";
        }
        StringBuilder all = new StringBuilder();
        int end = tell(slot, 0, all);
        Check.due("values told", end, x.values(slot));
        return all.toString();
    }

    private static final String[] NAMES = {
        "null", "bool", "int", "inst", "str", "key", "sym", "char", "array", "list", "set", "map", "tagged"
    };

    private int tell(int slot, int k, StringBuilder all) {
        int kind = x.kind(slot, k);
        all.append(NAMES[kind]);
        boolean numbered = kind >= 1 && kind <= 3 || kind == 7;
        if (numbered) {
            all.append(' ').append(x.number(slot, k));
        } else {
            Check.due("number of a " + NAMES[kind], x.number(slot, k), 0L);
        }
        if (kind >= 4 && kind <= 6 || kind == 12) {
            all.append(" '").append(word(slot, k)).append('\'');
        } else {
            Check.due("letter of a " + NAMES[kind], x.letter(slot, k, 0), -1);
        }
        if (kind >= 4 && kind <= 6) {
            Check.due("size of a " + NAMES[kind], x.size(slot, k), word(slot, k).length());
        }
        int next = k + 1;
        if (kind >= 8) {
            all.append('(');
            for (int i = 0; i < x.size(slot, k); i++) {
                all.append(i > 0 ? ", " : "");
                next = tell(slot, next, all);
            }
            all.append(')');
        } else if (kind < 4 || kind == 7) {
            Check.due("size of a " + NAMES[kind], x.size(slot, k), 0);
        }
        return next;
    }

    private String word(int slot, int k) {
        StringBuilder word = new StringBuilder();
        for (int i = 0; i <= 240; i++) {
            int c = x.letter(slot, k, i);
            if (c == RollingTransit.NONE) {
                break;
            }
            word.append((char) c);
        }
        Check.due("letter -1", x.letter(slot, k, -1), -1);
        return word.toString();
    }
}
