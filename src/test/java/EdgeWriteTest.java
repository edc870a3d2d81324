/** The boundary cases of promise 8, write, and of the one way in which values are written. */
public final class EdgeWriteTest {
    private static final int ROOM = 240;

    private static final String NUMBERS = """
        [0] => [0]
        [1,-1] => [1,-1]
        [9007199254740991] => [9007199254740991]
        [9007199254740992] => [9007199254740992]
        [9007199254740993] => ["~i9007199254740993"]
        [-9007199254740991] => [-9007199254740991]
        [-9007199254740992] => [-9007199254740992]
        [-9007199254740993] => ["~i-9007199254740993"]
        [9223372036854775807] => ["~i9223372036854775807"]
        [-9223372036854775808] => ["~i-9223372036854775808"]
        ["~i9007199254740992","~i5"] => [9007199254740992,5]
        ["~m0","~m9007199254740992","~m-9223372036854775808"] => ["~m0","~m9007199254740992","~m-9223372036854775808"]
        [1000000000000000000,100] => ["~i1000000000000000000",100]
        """;

    private static final String KEYS = """
        ["^ ",null,null,true,true,false,false] => ["^ ","~_",null,"~?t",true,"~?f",false]
        ["^ ",0,0,-1,-1] => ["^ ","~i0",0,"~i-1",-1]
        ["^ ",9007199254740992,9007199254740992] => ["^ ","~i9007199254740992",9007199254740992]
        ["^ ",9007199254740993,9007199254740993] => ["^ ","~i9007199254740993","~i9007199254740993"]
        ["^ ","~m1","~m1","~ca","~ca","",""] => ["^ ","~m1","~m1","~ca","~ca","",""]
        ["^ ","~:a","~:a","~$a","~$a"] => ["^ ","~:a","~:a","~$a","~$a"]
        ["^ ",1,[2,null,["^ ",3,4]]] => ["^ ","~i1",[2,null,["^ ","~i3",4]]]
        ["~#cmap",[null,1,true,2,3,4,[],5]] => ["~#cmap",[null,1,true,2,3,4,[],5]]
        """;

    private static final String COLLECTIONS = """
        [ ] => []
        [ 1 , [ 2 , [ ] ] , 3 ] => [1,[2,[]],3]
        [ "a b" , " " ] => ["a b"," "]
        [ "~#set" , [ ] ] => ["~#set",[]]
        [ "~#set" , [ 3 , 1 , 2 ] ] => ["~#set",[3,1,2]]
        [ "~#list" , [ ] ] => ["~#list",[]]
        [ "~#list" , [ 1 , 1 ] ] => ["~#list",[1,1]]
        ["~#set",[["~#list",[]],["~#set",[]],[]]] => ["~#set",[["~#list",[]],["^0",[]],[]]]
        [ "~#a" , null ] => ["~#a",null]
        ["~#ab",["~#ab",[]]] => ["~#ab",["^0",[]]]
        "~z" => ["~#z",""]
        "~Zab" => ["~#Z","ab"]
        ["~#z","~zab"] => ["~#z",["~#z","ab"]]
        ["~#^ ",1] => ["~#^ ",1]
        ["~#~#",1] => ["~#~#",1]
        ["~#'a",1] => ["~#'a",1]
        """;

    private static final String MAPS = """
        ["~#cmap",[]] => ["^ "]
        ["^ "] => ["^ "]
        ["~#cmap",[1,[]]] => ["^ ","~i1",[]]
        ["^ ",[],1] => ["~#cmap",[[],1]]
        ["^ ",["~#list",[]],1] => ["~#cmap",[["~#list",[]],1]]
        ["^ ",["~#set",[]],1] => ["~#cmap",[["~#set",[]],1]]
        ["^ ",["^ "],1] => ["~#cmap",[["^ "],1]]
        ["^ ","~z",1] => ["~#cmap",[["~#z",""],1]]
        ["^ ",["~#'","~ca"],1] => ["^ ","~ca",1]
        ["^ ",1,2,3,4,[],5] => ["~#cmap",[1,2,3,4,[],5]]
        ["^ ",[],1,2,3,4,5] => ["~#cmap",[[],1,2,3,4,5]]
        ["^ ",1,[],2,["~#set",[]],3,"~z"] => ["^ ","~i1",[],"~i2",["~#set",[]],"~i3",["~#z",""]]
        """;

    private static final String WHOLE = """
        null => ["~#'",null]
        true => ["~#'",true]
        false => ["~#'",false]
        0 => ["~#'",0]
        9007199254740993 => ["~#'","~i9007199254740993"]
        "~m0" => ["~#'","~m0"]
        "" => ["~#'",""]
        "~:abcd" => ["~#'","~:abcd"]
        "~$a" => ["~#'","~$a"]
        "~ca" => ["~#'","~ca"]
        ["~#'",["~#'",5]] => ["~#'",5]
        [] => []
        [null] => [null]
        ["~#list",[]] => ["~#list",[]]
        ["~#set",[]] => ["~#set",[]]
        "~z" => ["~#z",""]
        ["~#z",null] => ["~#z",null]
        """;

    private static final String NOTED = """
        ["~:a","~:a"] => ["~:a","~:a"]
        ["~:ab","~:ab"] => ["~:ab","^0"]
        ["~$a","~$a"] => ["~$a","~$a"]
        ["~$ab","~$ab"] => ["~$ab","^0"]
        ["~:\\"","~:\\""] => ["~:\\"","~:\\""]
        ["~:\\"a","~:\\"a"] => ["~:\\"a","^0"]
        [["~#a",1],["~#a",1]] => [["~#a",1],["~#a",1]]
        [["~#ab",1],["~#ab",1]] => [["~#ab",1],["^0",1]]
        ["~zab","~zab"] => [["~#z","ab"],["~#z","ab"]]
        ["abcd","abcd"] => ["abcd","abcd"]
        ["~~:ab","~~:ab"] => ["~~:ab","~~:ab"]
        ["~i9007199254740993","~i9007199254740993"] => ["~i9007199254740993","~i9007199254740993"]
        ["~m1234","~m1234"] => ["~m1234","~m1234"]
        [["^ ","",1],["^ ","",1]] => [["^ ","",1],["^ ","",1]]
        [["^ ","a",1],["^ ","a",1]] => [["^ ","a",1],["^ ","a",1]]
        [["^ ","ab",1],["^ ","ab",1]] => [["^ ","ab",1],["^ ","ab",1]]
        [["^ ",null,1],["^ ",null,1]] => [["^ ","~_",1],["^ ","~_",1]]
        [["^ ",true,1],["^ ",true,1]] => [["^ ","~?t",1],["^ ","~?t",1]]
        [["^ ","abc",1],["^ ","abc",1]] => [["^ ","abc",1],["^ ","abc",1]]
        [["^ ","abcd",1],["^ ","abcd",1]] => [["^ ","abcd",1],["^ ","^0",1]]
        [["^ ","~~a",1],["^ ","~~a",1]] => [["^ ","~~a",1],["^ ","~~a",1]]
        [["^ ","~~ab",1],["^ ","~~ab",1]] => [["^ ","~~ab",1],["^ ","^0",1]]
        [["^ ",1,1],["^ ",1,1]] => [["^ ","~i1",1],["^ ","~i1",1]]
        [["^ ",12,1],["^ ",12,1]] => [["^ ","~i12",1],["^ ","^0",1]]
        [["^ ",-1,1],["^ ",-1,1]] => [["^ ","~i-1",1],["^ ","^0",1]]
        [["^ ","~m12",1],["^ ","~m12","~m12"]] => [["^ ","~m12",1],["^ ","^0","~m12"]]
        [["^ ",12,"~i12"],12] => [["^ ","~i12",12],12]
        [["^ ","ab\\"",1],["^ ","ab\\"",1]] => [["^ ","ab\\"",1],["^ ","ab\\"",1]]
        [["^ ",1,"abcd"],["^ ","abcd",1],["^ ","abcd",2]] => [["^ ","~i1","abcd"],["^ ","abcd",1],["^ ","^0",2]]
        [["^ ","~:ab",1],"~:ab"] => [["^ ","~:ab",1],"^0"]
        ["~:ab",["^ ","~:ab",1]] => ["~:ab",["^ ","^0",1]]
        ["~:ab","~$ab",["~#ab",1],"~$ab",["~#ab","~:ab"]] => ["~:ab","~$ab",["~#ab",1],"^1",["^2","^0"]]
        ["~#set",[["~#set",[1]],["~#set",[2]]]] => ["~#set",[["^0",[1]],["^0",[2]]]]
        ["~#list",[["~#list",[1]],["~#list",[1]]]] => ["~#list",[["^0",[1]],["^0",[1]]]]
        ["~#cmap",[[],["~#cmap",[[],1]]]] => ["~#cmap",[[],["^0",[[],1]]]]
        [["~#cmap",["abcd",1,[],2]],["^ ","abcd",1],["^ ","abcd",2]] => [["~#cmap",["abcd",1,[],2]],["^ ","abcd",1],["^ ","^1",2]]
        """;

    public static void main(String[] args) {
        Check.sentence("an INTEGER below -2^53 or above 2^53 as a string with ~i in front");
        Probe.eachRow(NUMBERS, Edge::written);
        Check.sentence("and all that are keys of a map written with ^ and a space, as strings that mean them");
        Probe.eachRow(KEYS, Edge::written);
        fronts();
        Check.sentence("An ARRAY as an array of its parts; a SET or LIST as an array of its string (~#set, ~#list) and"
                + " an array of its parts; [..] TAGGED as an array of ~# with its tag, and its part.");
        Probe.eachRow(COLLECTIONS, Edge::written);
        Check.sentence("a MAP whose keys are all SIMPLE as an array of ^ and a space and its parts, any other one as one of ~#cmap");
        Probe.eachRow(MAPS, Edge::written);
        Check.sentence("A SIMPLE value that is the whole is written as an array of ~#' and itself.");
        Probe.eachRow(WHOLE, Edge::written);
        escapes();
        Check.sentence("Raw words that are noted in reading are noted in writing likewise");
        Probe.eachRow(NOTED, Edge::written);
        numbersOfWords();
        allNumbersUsed();
        tooLong();
        tooLongByEachPart();
        fitsByCodesAlone();
        tooDeep();
        slots();
        theTextBecomes();
        Check.end();
    }

    private static void fronts() {
        Check.sentence("(a STRING whose word begins with ~ , ^ or ` with a ~ more in front)");
        Edge.written("[\"\"]", "[\"\"]");
        Edge.written("[\"\",\"~:a\",\"\",\"~^\",\"\"]", "[\"\",\"~:a\",\"\",\"~^\",\"\"]");
        for (int c = 32; c <= 126; c++) {
            String more = c == '~' || c == '^' || c == '`' ? "~" : "";
            String word = Edge.quoted(more + Edge.escaped(c));
            Edge.written("[" + word + "]", "[" + word + "]");
            Edge.written("[\"^ \"," + word + "," + word + "]", "[\"^ \"," + word + "," + word + "]");
            String tagged = Edge.quoted("~z" + Edge.escaped(c));
            Edge.written(tagged, "[\"~#z\"," + word + "]");
            String behind = Edge.quoted("a" + Edge.escaped(c));
            Edge.written("[" + behind + "]", "[" + behind + "]");
        }
    }

    private static void escapes() {
        Check.sentence("In strings \" and \\ get a \\ in front, / does not.");
        for (int c = 32; c <= 126; c++) {
            String inner = "a" + Edge.escaped(c) + "b";
            Edge.written("[" + Edge.quoted(inner) + "]", "[" + Edge.quoted(inner) + "]");
            Edge.written("[" + Edge.quoted("~c" + Edge.escaped(c)) + "]", "[" + Edge.quoted("~c" + Edge.escaped(c)) + "]");
            Edge.written("[" + Edge.quoted("~:" + inner) + "]", "[" + Edge.quoted("~:" + inner) + "]");
            Edge.written("[" + Edge.quoted("~#" + inner) + ",1]", "[" + Edge.quoted("~#" + inner) + ",1]");
        }
        Edge.written("[\"\\/\",\"~c\\/\",\"~:\\/\"]", "[\"/\",\"~c/\",\"~:/\"]");
    }

    private static void numbersOfWords() {
        Check.sentence("one that has a number is written as its code (of one digit for 0 .. 5, of two for others) instead.");
        for (int n = 0; n < 24; n++) {
            String words = Edge.keywords(24);
            Edge.written("[" + words + "," + Edge.keyword(n) + "]", "[" + words + "," + Edge.code(n) + "]");
            String some = Edge.keywords(n + 1);
            Edge.written("[" + some + "," + Edge.keyword(n) + "]", "[" + some + "," + Edge.code(n) + "]");
        }
        Check.due("code of 5", Edge.code(5), "\"^5\"");
        Check.due("code of 6", Edge.code(6), "\"^10\"");
        Check.due("code of 23", Edge.code(23), "\"^35\"");
    }

    private static void allNumbersUsed() {
        Check.sentence("when all are used, all that were noted are forgotten before, and it gets 0.", "in writing");
        String words = Edge.keywords(25);
        Edge.written("[" + words + "," + Edge.keyword(24) + "]", "[" + words + ",\"^0\"]");
        for (int n = 0; n < 24; n++) {
            String again = Edge.keyword(n);
            Edge.written("[" + words + "," + again + "," + again + "]", "[" + words + "," + again + ",\"^1\"]");
        }
        // A word that has a number needs no new one, so nothing is forgotten for it.
        String full = Edge.keywords(24);
        Edge.written("[" + full + "," + Edge.keyword(0) + "," + Edge.keyword(23) + "]", "[" + full + ",\"^0\",\"^35\"]");
        Edge.written("[" + full + ",\"abcd\"," + Edge.keyword(23) + "]", "[" + full + ",\"abcd\",\"^35\"]");
        Edge.written("[" + full + ",\"~:a\"," + Edge.keyword(23) + "]", "[" + full + ",\"~:a\",\"^35\"]");
    }

    private static void tooLong() {
        Check.sentence("UnsupportedOperationException when it would have more than 240 characters");
        for (int n = 226; n <= 238; n++) {
            sized(Edge.quoted("a".repeat(n)), n + 10);
        }
        for (int n = 108; n <= 119; n++) {
            sized(Edge.quoted("\\\"".repeat(n)), 2 * n + 10);
            sized(Edge.quoted("a" + "\\\\".repeat(n - 1)), 2 * n + 9);
        }
        for (int n = 225; n <= 236; n++) {
            sized(Edge.quoted("~z" + "a".repeat(n)), n + 10);
            sized(Edge.quoted("~:" + "a".repeat(n)), n + 12);
        }
    }

    /** A text whose value is written with so many characters, or not at all when they are too many. */
    private static void sized(String text, int due) {
        if (due > ROOM) {
            Edge.unwritten(text);
        } else {
            Probe p = new Probe().put(text);
            p.read(0);
            Check.due("written for " + text, Probe.answer(() -> p.x.write(0)), String.valueOf(due));
        }
    }

    private static void tooLongByEachPart() {
        Check.sentence("UnsupportedOperationException when it would have more than 240 characters", "in each part of it");
        // What is read as a part, and in the same order what is written for it.
        String[] parts = {
            "\"~z\"", "\"~zab\"", "[\"^ \",1,2]", "[\"^ \",12,2]", "[\"^ \",null,2]", "[\"^ \",true,2]", "[\"^ \",[],2]",
            "9007199254740993", "-9007199254740993", "[\"^ \",9007199254740993,2]", "[\"^ \",\"~z\",2]",
        };
        String[] due = {
            "[\"~#z\",\"\"]", "[\"~#z\",\"ab\"]", "[\"^ \",\"~i1\",2]", "[\"^ \",\"~i12\",2]", "[\"^ \",\"~_\",2]",
            "[\"^ \",\"~?t\",2]", "[\"~#cmap\",[[],2]]", "\"~i9007199254740993\"", "\"~i-9007199254740993\"",
            "[\"^ \",\"~i9007199254740993\",2]", "[\"~#cmap\",[[\"~#z\",\"\"],2]]",
        };
        for (int i = 0; i < parts.length; i++) {
            for (int over = -2; over <= due[i].length() - parts[i].length(); over++) {
                // [ and ] and a string with its quotes and a comma stand round the part.
                String fill = Edge.quoted("a".repeat(ROOM - 5 - due[i].length() + over));
                sized("[" + fill + "," + parts[i] + "]", ROOM + over);
                sized("[" + parts[i] + "," + fill + "]", ROOM + over);
            }
        }
    }

    private static void fitsByCodesAlone() {
        Check.sentence("is written as its code [..] instead.", "so it fits, though the words alone would not");
        for (int more = 0; more <= 40; more++) {
            String text = "[\"~:" + "x".repeat(34 + 5 * more) + "\"" + ",\"^0\"".repeat(40 - more) + "]";
            Check.due("length", text.length(), ROOM);
            Edge.written(text, text);
        }
        String keys = "[[\"^ \",\"" + "y".repeat(100) + "\",1]" + ",[\"^ \",\"^0\",1]".repeat(8) + "]";
        Check.due("length", keys.length() <= ROOM, true);
        Edge.written(keys, keys);
        // The 25th word has the long one forgotten, so that it is written whole once more.
        String once = "\"~:" + "z".repeat(20) + "\"";
        String used = "[" + once + "," + Edge.keywords(23) + ",\"^0\"," + Edge.keyword(23) + "," + once + ",\"^1\"]";
        Edge.written(used, used);
    }

    private static void tooDeep() {
        Check.sentence("or more than 8 arrays in one another.");
        for (int depth = 0; depth <= 8; depth++) {
            deepest(depth, "\"~zx\"", "[\"~#z\",\"x\"]", 1);
            deepest(depth, "[\"^ \",\"~zx\",1]", "[\"~#cmap\",[[\"~#z\",\"x\"],1]]", 3);
            deepest(depth, "[\"^ \",[],1]", "[\"~#cmap\",[[],1]]", 3);
            deepest(depth, "[\"^ \",1,\"~zx\"]", "[\"^ \",\"~i1\",[\"~#z\",\"x\"]]", 2);
            deepest(depth, "[\"~#set\",[\"~zx\"]]", "[\"~#set\",[[\"~#z\",\"x\"]]]", 3);
            deepest(depth, "[\"~#list\",[\"~zx\"]]", "[\"~#list\",[[\"~#z\",\"x\"]]]", 3);
            deepest(depth, "[\"~#ab\",\"~zx\"]", "[\"~#ab\",[\"~#z\",\"x\"]]", 2);
            deepest(depth, "[\"~#'\",\"~zx\"]", "[\"~#z\",\"x\"]", 1);
        }
        Edge.written("[[[[[[[[1,2],3]]]]]]]", "[[[[[[[[1,2],3]]]]]]]");
        Edge.written("[[[[[[[[]]]]]]],[[[[[[[]]]]]]],\"~zx\"]", "[[[[[[[[]]]]]]],[[[[[[[]]]]]]],[\"~#z\",\"x\"]]");
        Edge.unwritten("[[[[[[[[1,2,\"~zx\"],3]]]]]]]");
    }

    /** A part at a depth of so many arrays more; where a text has no room for them, it is not read. */
    private static void deepest(int depth, String part, String due, int arrays) {
        String text = "[".repeat(depth) + part + "]".repeat(depth);
        if (new Probe().put(text).read(0).equals(Edge.WRONG_TEXT)) {
            Check.due("refused " + text, depth + arrays > 8, true);
        } else if (depth + arrays <= 8) {
            Edge.written(text, "[".repeat(depth) + due + "]".repeat(depth));
        } else {
            Edge.unwritten(text);
        }
    }

    private static void slots() {
        Check.sentence("IndexOutOfBoundsException when slot is not 0 or 1; IllegalStateException when it is empty");
        for (int slot : Edge.NO_SLOTS) {
            Probe fresh = new Probe().put("ab");
            Edge.throwing("write(" + slot + ") of none", fresh, () -> fresh.x.write(slot), Edge.NO_PLACE);
            Probe p = Edge.busy();
            Edge.throwing("write(" + slot + ")", p, () -> p.x.write(slot), Edge.NO_PLACE);
        }
        Probe p = new Probe().put("[5]");
        Edge.throwing("write(0) of none", p, () -> p.x.write(0), Edge.EMPTY);
        Edge.throwing("write(1) of none", p, () -> p.x.write(1), Edge.EMPTY);
        p.read(1);
        p.put("ab");
        Edge.throwing("write(0) of none beside one", p, () -> p.x.write(0), Edge.EMPTY);
        Check.due("write(1)", p.written(1), "[5]");
        p.x.swap();
        Edge.throwing("write(1) of none beside one", p, () -> p.x.write(1), Edge.EMPTY);
        Check.due("write(0)", p.written(0), "[5]");
    }

    private static void theTextBecomes() {
        Check.sentence("The text becomes what is written for the value of a slot; answers its length.");
        Probe p = new Probe().put("[ ]");
        p.read(0);
        p.put(Edge.quoted("a".repeat(230))).read(1);
        Check.due("shortest", p.x.write(0), 2);
        Check.due("shortest text", p.text(), "[]");
        Check.due("longest", p.x.write(1), ROOM);
        Check.due("length", p.x.length(), ROOM);
        Check.due("shortest again", p.x.write(0), 2);
        Check.due("at(2)", p.x.at(2), -1);
        Check.due("room behind it", p.x.type('a'), true);
        Probe q = Edge.busy();
        String before = q.told(0) + q.told(1);
        q.x.write(0);
        q.x.write(0);
        q.x.write(1);
        Check.due("slots stay", q.told(0) + q.told(1), before);
        Check.due("fault stays", q.x.fault(), 3);
    }
}
