/** Promise 8: write, and with it the one way in which values are written. */
public final class WriteTest {
    private static final String SIMPLE = """
        null => ["~#'",null]
        true => ["~#'",true]
        "~?f" => ["~#'",false]
        5 => ["~#'",5]
        "~i-5" => ["~#'",-5]
        0 => ["~#'",0]
        9007199254740992 => ["~#'",9007199254740992]
        9007199254740993 => ["~#'","~i9007199254740993"]
        -9007199254740992 => ["~#'",-9007199254740992]
        -9007199254740993 => ["~#'","~i-9007199254740993"]
        9223372036854775807 => ["~#'","~i9223372036854775807"]
        -9223372036854775808 => ["~#'","~i-9223372036854775808"]
        "~m5" => ["~#'","~m5"]
        "~m-9223372036854775808" => ["~#'","~m-9223372036854775808"]
        "" => ["~#'",""]
        "a" => ["~#'","a"]
        "~~a" => ["~#'","~~a"]
        "~^ " => ["~#'","~^ "]
        "~`" => ["~#'","~`"]
        "a\\/\\\\\\"/" => ["~#'","a/\\\\\\"/"]
        "~:abc" => ["~#'","~:abc"]
        "~$abc" => ["~#'","~$abc"]
        "~c\\"" => ["~#'","~c\\""]
        "~c\\\\" => ["~#'","~c\\\\"]
        "~c\\/" => ["~#'","~c/"]
        "~zabc" => ["~#z","abc"]
        "~z~~a" => ["~#z","~~~a"]
        "~z^0" => ["~#z","~^0"]
        """;

    private static final String ARRAYS = """
        [ ] => []
        [ 1 , "a" , [ null ] ] => [1,"a",[null]]
        ["~#set",[3,1,2]] => ["~#set",[3,1,2]]
        ["~#list",[]] => ["~#list",[]]
        ["~#'",["~#'",[1]]] => [1]
        ["~#cmap",[]] => ["^ "]
        ["~#cmap",["a",1,2,"b"]] => ["^ ","a",1,"~i2","b"]
        ["^ ",[1],2,3,4] => ["~#cmap",[[1],2,3,4]]
        ["^ ","~zx",null] => ["~#cmap",[["~#z","x"],null]]
        ["^ ",null,null] => ["^ ","~_",null]
        ["^ ",true,true,false,false] => ["^ ","~?t",true,"~?f",false]
        ["^ ","~m1","~m1","~ca","~ca"] => ["^ ","~m1","~m1","~ca","~ca"]
        ["^ ","~:a","~$b","~$b","~:a"] => ["^ ","~:a","~$b","~$b","~:a"]
        ["^ ",1,["^ ",2,3]] => ["^ ","~i1",["^ ","~i2",3]]
        ["~#cmap",[[1],["^ ",2,3],4,5]] => ["~#cmap",[[1],["^ ","~i2",3],4,5]]
        ["~#foo",["~#foo",1]] => ["~#foo",["^0",1]]
        ["~#f\\"",1] => ["~#f\\"",1]
        """;

    private static final String CODES = """
        ["~:abc","~:abc","~:abc"] => ["~:abc","^0","^0"]
        ["~:a","~:a"] => ["~:a","~:a"]
        ["~$ab","~:ab","~:ab","~$ab"] => ["~$ab","~:ab","^1","^0"]
        ["^ ","name","name","more",["^ ","name","more"]] => ["^ ","name","name","more",["^ ","^0","more"]]
        [["^ ",12,12],["^ ",12,"~i12"]] => [["^ ","~i12",12],["^ ","^0",12]]
        [["^ ",1,1],["^ ",1,1]] => [["^ ","~i1",1],["^ ","~i1",1]]
        [["^ ","~~ab",1],["^ ","~~ab",2]] => [["^ ","~~ab",1],["^ ","^0",2]]
        [["^ ","abc",1],["^ ","abc",2]] => [["^ ","abc",1],["^ ","abc",2]]
        [["~#set",[]],["~#set",[]],["~#list",[]],["~#list",[]]] => [["~#set",[]],["^0",[]],["~#list",[]],["^1",[]]]
        [["~#cmap",[[],1]],["~#cmap",[[],2]]] => [["~#cmap",[[],1]],["^0",[[],2]]]
        [["~#ab",1],["~#ab",2],["~#a",1],["~#a",2]] => [["~#ab",1],["^0",2],["~#a",1],["~#a",2]]
        ["~~:ab","~~:ab","~zabc","~zabc"] => ["~~:ab","~~:ab",["~#z","abc"],["~#z","abc"]]
        [["^ ","name",1],["~#cmap",["name",1,[],1]]] => [["^ ","name",1],["~#cmap",["name",1,[],1]]]
        [["^ ","~:ab","~:ab"],"~:ab"] => [["^ ","~:ab","^0"],"^0"]
        [["^ ","a\\"\\\\b",1],["^ ","a\\"\\\\b",2]] => [["^ ","a\\"\\\\b",1],["^ ","^0",2]]
        [["^ ","a\\\\b",1],["^ ","a\\\\b",2]] => [["^ ","a\\\\b",1],["^ ","a\\\\b",2]]
        ["~:ab","~:abc","~:abc","~:ab"] => ["~:ab","~:abc","^1","^0"]
        """;

    public static void main(String[] args) {
        Probe.eachRow(SIMPLE, WriteTest::writes);
        Probe.eachRow(ARRAYS, WriteTest::writes);
        Probe.eachRow(CODES, WriteTest::writes);
        manyCodes();
        slots();
        longWords();
        tooLong();
        tooDeep();
        textStaysBehindWrite();
        Check.end();
    }

    private static void writes(String text, String due) {
        Probe p = new Probe().put(text);
        p.read(0);
        String told = p.told(0);
        Check.due("written for " + text, p.written(0), due);
        Check.due("slot stays for " + text, p.told(0), told);
        Check.due("read again: " + text, p.read(1), String.valueOf(p.x.values(0)));
        Check.due("told again: " + text, p.told(1), told);
        Check.due("same again: " + text, p.x.same(), true);
        Check.due("written again for " + text, p.written(1), due);
    }

    private static void manyCodes() {
        writes("[" + Edge.keywords(8) + "," + Edge.keyword(5) + "," + Edge.keyword(6) + "," + Edge.keyword(7) + "]",
                "[" + Edge.keywords(8) + ",\"^5\",\"^10\",\"^11\"]");
        writes("[" + Edge.keywords(24) + "," + Edge.keyword(23) + "," + Edge.keyword(0) + "]",
                "[" + Edge.keywords(24) + ",\"^35\",\"^0\"]");
        // The 25th word has the others forgotten, so the first one is noted anew, with the number 1.
        writes("[" + Edge.keywords(25) + "," + Edge.keyword(24) + "," + Edge.keyword(0) + "," + Edge.keyword(0) + "]",
                "[" + Edge.keywords(25) + ",\"^0\"," + Edge.keyword(0) + ",\"^1\"]");
    }

    private static void longWords() {
        String text = "[\"~:" + "x".repeat(115) + "\"" + ",\"^0\"".repeat(23) + "]";
        Probe p = new Probe().put(text);
        p.read(0);
        for (int i = 0; i < 9; i++) {
            Check.due("long word, time " + i, p.written(0), text);
        }
        String other = "[\"" + "y".repeat(200) + "\",\"~:abc\",\"^0\"]";
        p.put(other).read(1);
        for (int i = 0; i < 9; i++) {
            Check.due("another one, time " + i, p.written(1), other);
        }
    }

    private static void textStaysBehindWrite() {
        Probe p = new Probe().put("\"" + "a".repeat(238) + "\"");
        p.read(0);
        p.put("[1,2]").read(1);
        for (int i = 0; i < 3; i++) {
            Check.due("written", p.written(1), "[1,2]");
            Check.due("refused", p.written(0), "UnsupportedOperationException");
            Check.due("text stays", p.text(), "[1,2]");
            p.x.type(',');
            Check.due("refused again", p.written(0), "UnsupportedOperationException");
            Check.due("text stays again", p.text(), "[1,2],");
        }
    }

    private static void slots() {
        Probe p = new Probe().put("[1]");
        Check.due("write(2)", p.written(2), "IndexOutOfBoundsException");
        Check.due("write(-1)", p.written(-1), "IndexOutOfBoundsException");
        Check.due("write of empty", p.written(0), "IllegalStateException");
        Check.due("text stays", p.text(), "[1]");
        p.read(1);
        p.put("abc");
        Check.due("write of empty", p.written(0), "IllegalStateException");
        Check.due("write(1)", p.written(1), "[1]");
        Check.due("answer", p.x.write(1), 3);
        Check.due("type behind write", p.x.type('x'), true);
        Check.due("typed behind write", p.text(), "[1]x");
    }

    private static void tooLong() {
        Probe p = new Probe();
        Check.due("240 exactly", writtenLength("a".repeat(230)), "240");
        Check.due("241", writtenLength("a".repeat(231)), "UnsupportedOperationException");
        Check.due("240 with escapes", writtenLength("\\\"".repeat(115)), "240");
        Check.due("241 with escapes", writtenLength("\\\"".repeat(115) + "a"), "UnsupportedOperationException");
        p.put("\"" + "a".repeat(238) + "\"");
        p.read(0);
        String before = p.text();
        Check.due("too long", p.written(0), "UnsupportedOperationException");
        Check.due("text stays", p.text(), before);
        p.put("[5]").read(1);
        Check.due("another slot", p.written(1), "[5]");
        p.put("[" + "\"~a\",".repeat(47) + "1]");
        Check.due("short tags", p.read(0), "96");
        Check.due("written long", p.written(0), "UnsupportedOperationException");
    }

    private static String writtenLength(String inString) {
        Probe p = new Probe().put("\"" + inString + "\"");
        p.read(0);
        return Probe.answer(() -> p.x.write(0));
    }

    private static void fitsInEight(String text, boolean fits) {
        Probe p = new Probe().put(text);
        Check.due("read of " + text, p.read(0).matches("\\d+"), true);
        String refused = "UnsupportedOperationException";
        Check.due("written for " + text, p.written(0).equals(refused), !fits);
    }

    private static void tooDeep() {
        String seven = "[[[[[[[\"~zx\"]]]]]]]";
        writes(seven, "[[[[[[[[\"~#z\",\"x\"]]]]]]]]");
        Probe p = new Probe().put("[" + seven + "]");
        Check.due("eight", p.read(0), "10");
        Check.due("nine to write", p.written(0), "UnsupportedOperationException");
        Check.due("text stays", p.text(), "[" + seven + "]");
        Check.due("length stays", p.x.length(), 21);
        Check.due("picked", Probe.answer(() -> p.x.pick(0, 1)), "9");
        Check.due("eight to write", p.written(0), "[[[[[[[[\"~#z\",\"x\"]]]]]]]]");
        // Read with ^ and a space, but written with ~#cmap: one array more.
        p.put("[[[[[[[[\"^ \",[\"^ \"],1]]]]]]]]");
        Check.due("a ninth array", p.read(1), "IllegalArgumentException");
        p.put("[[[[[[[\"^ \",[],1]]]]]]]");
        Check.due("map in eight", p.read(1), "9");
        Check.due("cmap in nine", p.written(1), "UnsupportedOperationException");
        p.put("[[[[[[\"^ \",[],1]]]]]]");
        Check.due("map in seven", p.read(1), "8");
        Check.due("cmap in eight", p.written(1), "[[[[[[\"~#cmap\",[[],1]]]]]]]");
        writes("[[[[[[[\"^ \",\"a\",[]]]]]]]]", "[[[[[[[\"^ \",\"a\",[]]]]]]]]");
        writes("[[[[[[[\"~#a\",[]]]]]]]]", "[[[[[[[\"~#a\",[]]]]]]]]");
        fitsInEight("[[[[[[[\"^ \",\"a\",\"~zx\"]]]]]]]", true);
        fitsInEight("[[[[[[[[\"^ \",\"a\",\"~zx\"]]]]]]]]", false);
        fitsInEight("[[[[[[[\"~#a\",\"~zx\"]]]]]]]", true);
        fitsInEight("[[[[[[[[\"~#a\",\"~zx\"]]]]]]]]", false);
        p.put("[[[[[[[[\"~#'\",5]]]]]]]]");
        Check.due("quoted", p.read(1), "8");
        Check.due("quote is gone", p.written(1), "[[[[[[[5]]]]]]]");
    }
}
