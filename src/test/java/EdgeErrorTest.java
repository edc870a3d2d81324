/** The boundary cases of errors, of their places and their order, and of promise 7, fault. */
public final class EdgeErrorTest {
    private static final String[] GOOD = {
        "[null,true,false,-12,\"a\\\"b\",[],[[1]]]",
        " [ null , true , -1 , \"a b\" , [ ] ] ",
        "[\"~#set\",[1,\"a[,]\\\\\",2]]",
        "[\"^ \",\"name\",1,\"~:key\",[\"^ \",\"^0\",\"^1\"]]",
        "[\"~#cmap\",[[1],2,[\"~#list\",[3]],4]]",
        "[[\"~#foo\",\"~zab\"],[\"^0\",[\"~#'\",5]]]",
        "[[[[[[[[]]]]]]]]",
    };

    private static final String NUMBERS = """
        9223372036854775808 => 0
        -9223372036854775809 => 0
         9223372036854775808 => 1
        [ 9223372036854775808 ] => 2
        [1,-9223372036854775809] => 3
        ["^ ",9223372036854775808,1] => 6
        ["^ ",1,9223372036854775808] => 8
        ["~#a",9223372036854775808] => 7
        ["~#set",[9223372036854775808]] => 10
        10000000000000000000 => 0
        -10000000000000000000 => 0
        [1,10000000000000000000] => 3
        [1,-10000000000000000000] => 3
        [1, 99999999999999999999999999999999 => 4
        """;

    private static final String NINTH = """
        [[[[[[[[[ => 8
        [[[[[[[[ [ => 9
        [[[[[[[[[]]]]]]]]] => 8
        [[[[[[[[1,[]]]]]]]]] => 10
        [[[[[[[["^ ",[],1]]]]]]]] => 13
        [[[[[[[["^ ",1,[]]]]]]]]] => 15
        [[[[[[[["~#a",[]]]]]]]]] => 14
        [[[[[[[["~#set",[]]]]]]]]] => 16
        [[[[[[[["~#'",[]]]]]]]]] => 14
        ["~#'",["~#'",["~#'",["~#'",["~#'",["~#'",["~#'",["~#'",[ => 56
        [[],[[],[[[[[[[[ => 14
        """;

    private static final String AFTER_A_TAG = """
        ["~#a"] => 6
        ["~#a" ] => 7
        ["~#a",] => 7
        ["~#a",,1] => 7
        ["~#a",1,] => 8
        ["~#a",1,2] => 8
        ["~#a",1 , 2] => 9
        ["~#a",1 2] => 9
        ["~#a" 1] => 7
        ["~#a"1] => 6
        ["~#'"] => 6
        ["~#'",1,2] => 8
        ["~#set"] => 8
        ["~#set",] => 9
        ["~#set",[1],[2]] => 12
        ["~#set",[1],] => 12
        ["~#set",1,2] => 10
        ["~#list",[1],[2]] => 13
        ["~#cmap",[1],[2]] => 13
        ["~#cmap",1,2] => 11
        [["~#ab",1],["^0"]] => 17
        [["~#ab",1],["^0",1,2]] => 19
        """;

    private static final String AFTER_A_KEY = """
        ["^ ",1] => 7
        ["^ ",1 ] => 8
        ["^ ",1,] => 8
        ["^ ",1,2,3] => 11
        ["^ ",1,2,] => 10
        ["^ ",] => 6
        ["^ ",,1] => 6
        ["^ " 1,2] => 6
        ["^ ",1 2] => 8
        ["^ ","name"] => 12
        ["^ ",[1]] => 9
        ["^ ",1,2,1] => 11
        ["^ ",["^ "]] => 12
        """;

    private static final String ODD = """
        ["~#cmap",[1]] => 10
        ["~#cmap", [1]] => 11
        ["~#cmap",[1,2,3]] => 10
        ["~#cmap",[1,1,1]] => 10
        ["~#cmap",[1,2,1,2,3]] => 10
        ["~#cmap",["~#'",[1]]] => 10
        ["~#cmap",["~#'", ["~#'",[1]]]] => 10
        [1,["~#cmap",[[]]]] => 13
        """;

    private static final String TWINS = """
        ["~#set",[1,1]] => 12
        ["~#set",[1, 1]] => 13
        ["~#set",[1,2,1]] => 14
        ["~#set",[1,2,2,1]] => 14
        ["~#set",[2,1,2,1]] => 14
        ["~#set",[1,1,1]] => 12
        ["~#set",[1,2,3,4,5,6,7,8,9,9]] => 28
        ["~#set",[1,"~i1"]] => 12
        ["~#set",[1,["~#'",1]]] => 12
        ["~#set",[["~#'",1],["~#'", 1]]] => 20
        ["~#set",[["~#set",[1]], ["^0",[1]]]] => 25
        ["~#set",["~#'",[1,1]]] => 19
        ["~#set",[[],[]]] => 13
        ["~#set",["",""]] => 13
        ["~#set",["~za","~za"]] => 16
        ["~#set",["~za",["~#z","a"]]] => 16
        ["~#cmap",[1,2,1,3]] => 15
        ["~#cmap",[1,2,3,4,3,5,1,6]] => 19
        ["~#cmap",[[1],2, [1],3]] => 18
        ["^ ",1,2,1,3] => 10
        ["^ ",1,2, 1,3] => 11
        ["^ ",1,2,3,4,3,5,1,6] => 14
        ["^ ",null,1,"~_",1] => 13
        ["^ ","a",1,"a",1] => 12
        ["^ ",["^ ",1,2,3,4],1,["^ ",3,4,1,2],1] => 23
        """;

    private static final String NO_TWINS = """
        ["~#set",[1,"1","~m1","~:1","~$1","~c1","~z1",[1],["~#list",[1]],["~#set",[1]],["^ ",1,1]]]
        ["~#set",[0,null,false,"",[],["~#set",[]],["^ "],["~#list",[]],"~z"]]
        ["~#set",["a","A","ab","b",""]]
        ["~#set",[[1,2],[2,1],[1],[2],[1,2,1]]]
        ["~#set",[["^ ",1,2],["^ ",2,1],["^ ",1,1],["^ ",2,2]]]
        ["~#set",["~za","~zb","~ya","~z"]]
        ["^ ",1,1,2,1,3,1]
        ["^ ",1,2,2,1]
        ["~#cmap",[1,1,2,1,3,1]]
        ["~#list",[1,1,1]]
        [1,1,1]
        ["~#a",[1,1]]
        [["~#set",[1]],["~#set",[1]]]
        """;

    private static final String FIRST_ONE = """
        [9223372036854775808,"~"] => 1
        ["~",9223372036854775808] => 1
        ["~","`"] => 1
        [x,"~"] => 1
        ["~",x] => 1
        ["~" x] => 1
        [[["~"}]] => 3
        ["a" "~"] => 5
        [[[[[[[[["~"]]]]]]]]] => 8
        [[[[[[[["~",[]]]]]]]]] => 8
        ["~#set",[1,1,"~"]] => 14
        ["~#set",[1,1,x]] => 14
        ["~#set",[1,1],1] => 14
        ["~#set",[1,1} => 13
        ["~#set",[1,1]} => 14
        [["~#set",[1,1]],"~"] => 13
        [["~#set",[1,1]]x => 13
        ["~",["~#set",[1,1]]] => 1
        ["~#set",[["^0",[1,1]],["^0",[2,2]]]] => 19
        ["~#set",[["^0",[1,1]],["^0",[1,1]]]] => 19
        ["~#set",[1,1,["^0",[2,2]]]] => 23
        ["~#set",1 => 10
        ["~#set",1} => 10
        ["~#set","~"] => 9
        ["~#set",["~#cmap",[1]]] => 19
        ["~#cmap",[1,1,1,"~"]] => 17
        ["~#cmap",[1,2,1,3,4]] => 10
        ["^ ",1,2,1,3 => 13
        ["^ ",1,2,1] => 11
        ["^ ",1,2,1,"~"] => 12
        ["^ ","~",2,"~",3] => 6
        ["^ ",1,["~#set",[2,2]],1,1] => 20
        "~\\x" => 3
        "~ => 2
        "^0 => 3
        "~i9223372036854775808 => 22
        ["~#" => 1
        ["~#"x => 1
        """;

    public static void main(String[] args) {
        endsTooEarly();
        canNotBeThere();
        Check.sentence("a number out of range, or of more than 19 digits, at its beginning");
        Probe.eachRow(NUMBERS, Edge::refused);
        Check.sentence("the ninth of arrays in one another, at its [");
        Probe.eachRow(NINTH, Edge::refused);
        Check.sentence("a string that is an error by its raw word, or a code of a number that no word has, at its first \"");
        wrongStrings();
        Check.sentence("An array with a tag ends behind its content: ] or , elsewhere can not be there");
        Probe.eachRow(AFTER_A_TAG, Edge::refused);
        Check.sentence("so can not a ] behind a key.");
        Probe.eachRow(AFTER_A_KEY, Edge::refused);
        Check.sentence("or one with an odd number of parts for cmap, at the content's first character");
        Probe.eachRow(ODD, Edge::refused);
        Check.sentence("then the first part that is same as one before it in a SET, or key in a MAP, at its first character (also for a MAP with ^ and a space).");
        Probe.eachRow(TWINS, Edge::refused);
        NO_TWINS.lines().forEach(Edge::taken);
        manyParts();
        manyKeys();
        Check.sentence("the first one that is met, reading from the left, counts");
        Probe.eachRow(FIRST_ONE, Edge::refused);
        faultOfTheLatestRead();
        faultStays();
        Check.end();
    }

    private static void endsTooEarly() {
        Check.sentence("or at the text's length when it ends too early");
        for (String text : GOOD) {
            Edge.taken(text);
            int whole = text.stripTrailing().length();
            for (int n = 0; n < whole; n++) {
                Edge.refused(text.substring(0, n), n);
            }
        }
        String longest = "[" + "\"a\",".repeat(59) + "10]";
        Check.due("longest", longest.length(), 240);
        Edge.taken(longest);
        Edge.refused(longest.substring(0, 239), 239);
        Edge.refused("[" + "\"a\",".repeat(59) + "100", 240);
    }

    private static void canNotBeThere() {
        Check.sentence("a character that can not be there, at its place");
        for (String text : GOOD) {
            boolean inString = false;
            for (int n = 0; n <= text.length(); n++) {
                if (!inString) {
                    Edge.refused(text.substring(0, n) + "}" + text.substring(n), n);
                }
                boolean quote = n < text.length() && text.charAt(n) == '"';
                inString ^= quote && text.charAt(n - 1) != '\\';
            }
        }
    }

    private static void wrongStrings() {
        String[] wrong = {"~", "`", "^", "^0", "^35", "^55", "^x", "~:", "~#", "~1", "~_a", "~?x", "~i", "~m1a", "~c", "~cab"};
        for (String word : wrong) {
            String string = Edge.quoted(word);
            Edge.refused(string, 0);
            Edge.refused("  " + string + " ", 2);
            Edge.refused("[" + string + "]", 1);
            Edge.refused("[ 1 , " + string + " ]", 6);
            Edge.refused("[\"^ \"," + string + ",1]", 6);
            Edge.refused("[\"^ \",1," + string + "]", 8);
            Edge.refused("[\"~#a\"," + string + "]", 7);
            Edge.refused("[\"~#a\",[1," + string + "]]", 10);
        }
    }

    private static void manyParts() {
        StringBuilder parts = new StringBuilder("10");
        for (int i = 11; i <= 80; i++) {
            parts.append(',').append(i);
        }
        String open = "[\"~#set\",[";
        Edge.taken(open + parts + "]]");
        for (int i = 10; i <= 80; i++) {
            Edge.refused(open + parts + "," + i + "]]", open.length() + parts.length() + 1);
        }
    }

    private static void manyKeys() {
        StringBuilder parts = new StringBuilder("10,1");
        for (int count = 2; count <= 40; count++) {
            String more = "," + (8 + count) + ",2";
            for (String open : new String[] {"[\"^ \",", "[\"~#cmap\",["}) {
                String close = open.startsWith("[\"^") ? "]" : "]]";
                Edge.taken(open + parts + close);
                Edge.refused(open + parts + more + close, open.length() + parts.length() + 1);
                Edge.refused(open + parts + ",10,3" + close, open.length() + parts.length() + 1);
            }
            parts.append(",").append(9 + count).append(",1");
        }
    }

    private static void faultOfTheLatestRead() {
        Check.sentence("The place of the error that the latest read threw; NONE when it threw none, or there was no read.");
        Probe p = new Probe();
        Check.due("no read", p.x.fault(), -1);
        p.put("x").read(0);
        Check.due("at 0", p.x.fault(), 0);
        p.put("[x").read(0);
        Check.due("at 1", p.x.fault(), 1);
        p.put("[1").read(1);
        Check.due("at 2, of another slot", p.x.fault(), 2);
        p.put("[1]").read(0);
        Check.due("threw none", p.x.fault(), -1);
        p.put(" ".repeat(240)).read(0);
        Check.due("at 240", p.x.fault(), 240);
        p.put("5").read(0);
        Check.due("threw none again", p.x.fault(), -1);
    }

    private static void faultStays() {
        Check.sentence("(A slot that is not there leaves it as it was.)");
        for (int slot : Edge.NO_SLOTS) {
            Probe fresh = new Probe().put("x");
            Edge.throwing("read(" + slot + ") before any other", fresh, () -> fresh.x.read(slot), Edge.NO_PLACE);
            Probe p = Edge.busy();
            Edge.throwing("read(" + slot + ") behind an error", p, () -> p.x.read(slot), Edge.NO_PLACE);
            Check.due("the fault", p.x.fault(), 3);
            p.put("[5]");
            Edge.throwing("read(" + slot + ") of a good text", p, () -> p.x.read(slot), Edge.NO_PLACE);
            Check.due("the fault still", p.x.fault(), 3);
            p.read(0);
            p.put("x");
            Edge.throwing("read(" + slot + ") behind a good one", p, () -> p.x.read(slot), Edge.NO_PLACE);
            Check.due("no fault still", p.x.fault(), -1);
        }
        Probe p = Edge.busy();
        p.x.wipe();
        p.x.type('1');
        p.x.swap();
        p.x.write(0);
        p.x.pick(1, 1);
        p.x.same();
        p.x.values(0);
        Check.due("fault behind other calls", p.x.fault(), 3);
    }
}
