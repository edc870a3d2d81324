import java.util.Random;

/** Makes texts that are often right and sometimes wrong, from a fixed seed. */
final class RandomText {
    private final Random random;
    private int budget;
    // Half of the texts have no word that is wrong by itself, so that more of them have a value.
    private boolean tidy;
    private int noted;

    RandomText(long seed) {
        random = new Random(seed);
    }

    String next() {
        tidy = random.nextBoolean();
        noted = 0;
        budget = random.nextInt(4) == 0 ? 60 : 12 + random.nextInt(20);
        String text = space() + element(0) + space();
        if (random.nextInt(tidy ? 12 : 3) == 0) {
            text = spoil(text);
        }
        if (!tidy && random.nextInt(12) == 0) {
            text = spoil(spoil(text));
        }
        return text.length() > 240 ? text.substring(0, 240) : text;
    }

    private String one(String... choices) {
        return choices[random.nextInt(choices.length)];
    }

    private String space() {
        return random.nextInt(12) == 0 ? one(" ", "  ") : "";
    }

    private String spoil(String text) {
        int at = random.nextInt(text.length() + 1);
        String rest = text.substring(Math.min(text.length(), at + random.nextInt(2)));
        String put = random.nextInt(3) == 0 ? "" : one("[", "]", ",", "\"", "\\", " ", "~", "^", "0", "-", "x", "`", "#", "1");
        return random.nextInt(6) == 0 ? text.substring(0, at) : text.substring(0, at) + put + rest;
    }

    private String element(int depth) {
        budget--;
        int choice = random.nextInt(10);
        boolean inner = depth < 8 && budget > 0 || random.nextInt(60) == 0;
        if (inner && (depth == 0 || choice < 5)) {
            return array(depth + 1);
        }
        return choice < 7 ? bare() : string();
    }

    private String bare() {
        switch (random.nextInt(8)) {
            case 0:
                return "null";
            case 1:
                return one("true", "false");
            case 2:
                return one("0", "-1", "12", "9007199254740992", "9007199254740993", "-9007199254740993",
                        "9223372036854775807", "-9223372036854775808", tidy ? "5" : "9223372036854775808", tidy ? "6" : "01", tidy ? "7" : "-0");
            default:
                return String.valueOf(random.nextInt(24) - 4);
        }
    }

    private String string() {
        String word = word();
        while (tidy && isSuspect(word)) {
            word = word();
        }
        noted += word.length() > 3 && word.matches("~[:$#].*") ? 1 : 0;
        return "\"" + word + "\"";
    }

    private boolean isSuspect(String word) {
        if (word.matches("\\^[0-5]+")) {
            return Integer.parseInt(word.substring(1), 6) >= Math.min(noted, 24);
        }
        return word.matches("~#.*|[`^].*|~[:$1]?|~\\?x|~c|~cab|~i01");
    }

    private String word() {
        switch (random.nextInt(14)) {
            case 0:
            case 1:
            case 2:
                return one("^0", "^1", "^2", "^3", "^4", "^5", "^10", "^11", "^00", "^20", "^35", "^40");
            case 3:
            case 4:
            case 5:
                return one("~:", "~$") + one("a", "ab", "abc", "key", "k1", "k2", "k3", "k4", "k5", "k6", "k7", "k8");
            case 6:
                return "~:" + (char) ('a' + random.nextInt(26)) + (char) ('a' + random.nextInt(3));
            case 7:
                return one("~i1", "~i2", "~i12", "~i123", "~m1", "~m12", "~m-5", "~i-9223372036854775808", "~i01");
            case 8:
                return one("~_", "~?t", "~?f", "~ca", "~c~", "~c\\\"", "~c\\\\", "~c", "~cab");
            case 9:
                return one("~z", "~zab", "~rx", "~zabcd", "~I1", "~z~~", "~z\\\"");
            case 10:
                return one("~~a", "~^ ", "~`", "~~abc", "~^0", "~~:abc");
            case 11:
                return one("~#set", "~#a", "^ ", "~", "^", "`a", "~:", "~#", "^6", "~1", "~?x");
            default:
                return one("", "a", "b", "c", "abc", "name", "text", "more", "a\\\\b\\\"", "a\\/b", "word");
        }
    }

    private String array(int depth) {
        int choice = random.nextInt(12);
        if (choice < 3) {
            String tag = one("~#set", "~#set", "~#list", "~#cmap", "~#'", "~#foo", "~#a", "^0", "^1", "^2");
            if (tidy && isSuspect(tag) && tag.charAt(0) == '^') {
                tag = "~#set";
            }
            noted += tag.length() > 3 ? 1 : 0;
            return "[" + space() + "\"" + tag + "\"" + space() + "," + space() + content(depth) + space() + "]";
        }
        if (choice < 6) {
            return "[" + space() + "\"^ \"" + elements(depth, 2 * random.nextInt(5), true) + "]";
        }
        String inner = elements(depth, random.nextInt(depth == 1 ? 12 : 6), false);
        return "[" + (inner.isEmpty() ? space() : inner.substring(inner.indexOf(',') + 1)) + "]";
    }

    private String content(int depth) {
        if (depth >= 8 || random.nextInt(8) == 0) {
            return element(depth);
        }
        budget--;
        int count = random.nextInt(6);
        String inner = elements(depth + 1, random.nextInt(3) == 0 ? count : count / 2 * 2, false);
        return "[" + (inner.isEmpty() ? "" : inner.substring(inner.indexOf(',') + 1)) + "]";
    }

    private String elements(int depth, int count, boolean map) {
        StringBuilder all = new StringBuilder();
        for (int i = 0; i < count; i++) {
            boolean key = map && i % 2 == 0 && random.nextInt(4) > 0;
            all.append(space()).append(',').append(space()).append(key ? string() : element(depth)).append(space());
        }
        return all.toString();
    }
}
