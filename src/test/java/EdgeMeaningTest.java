/** The boundary cases of what strings and arrays mean, and which of them are errors. */
public final class EdgeMeaningTest {
    private static final String FRONTS = """
        "~~" => str '~'
        "~^" => str '^'
        "~`" => str '`'
        "~~~" => str '~~'
        "~~^" => str '~^'
        "~^ " => str '^ '
        "~^0" => str '^0'
        "~~#set" => str '~#set'
        "~~_" => str '~_'
        "~`~" => str '`~'
        "~~\\"" => str '~"'
        """;

    private static final String ALONE = """
        "~_" => null
        "~?t" => bool 1
        "~?f" => bool 0
        """;

    private static final String NOT_ALONE = """
        "~__" => 0
        "~_ " => 0
        "~_a" => 0
        "~?" => 0
        "~?T" => 0
        "~?F" => 0
        "~?s" => 0
        "~?u" => 0
        "~?e" => 0
        "~?g" => 0
        "~?1" => 0
        "~?tt" => 0
        "~?f " => 0
        "~? t" => 0
        "~?true" => 0
        """;

    private static final String[] NUMBERS = {
        "0", "1", "9", "-1", "10", "1000000000000000000", "-1000000000000000000", "9223372036854775807",
        "-9223372036854775808", "9223372036854775806", "-9223372036854775807",
    };

    private static final String[] NO_NUMBERS = {
        "", "-", "00", "01", "-0", "-01", "--1", "+1", " 1", "1 ", "1.", "1a", "a", "1-", "1,", "0x1", "~i1", "null",
        "9223372036854775808", "-9223372036854775809", "9999999999999999999", "10000000000000000000",
        "-10000000000000000000", "18446744073709551617", "0000000000000000001",
    };

    private static final String MORE = """
        "~:a" => key 'a'
        "~: " => key ' '
        "~::" => key ':'
        "~:~" => key '~'
        "~:^ " => key '^ '
        "~$a" => sym 'a'
        "~$$" => sym '$'
        "~$\\"" => sym '"'
        """;

    private static final String TAGS = """
        ["~#a",1] => tagged 'a'(int 1)
        ["~# ",1] => tagged ' '(int 1)
        ["~##",1] => tagged '#'(int 1)
        ["~#~",1] => tagged '~'(int 1)
        ["~#^ ",1] => tagged '^ '(int 1)
        ["~#\\"",1] => tagged '"'(int 1)
        ["~#a",null] => tagged 'a'(null)
        ["~#a",[]] => tagged 'a'(array())
        ["~#a",[1,2,3]] => tagged 'a'(array(int 1, int 2, int 3))
        ["~#a",["~#b",["~#c",1]]] => tagged 'a'(tagged 'b'(tagged 'c'(int 1)))
        """;

    private static final String QUOTES = """
        ["~#'",1] => int 1
        ["~#'",null] => null
        ["~#'","~?f"] => bool 0
        ["~#'",""] => str ''
        ["~#'",[]] => array()
        ["~#'",["~#'","a"]] => str 'a'
        ["~#'",["~#set",[1]]] => set(int 1)
        ["~#'",["^ ",1,2]] => map(int 1, int 2)
        ["~#'",["~#a",1]] => tagged 'a'(int 1)
        ["~#'","~zx"] => tagged 'z'(str 'x')
        [["~#'",1],["~#'",[2]]] => array(int 1, array(int 2))
        ["^ ",["~#'",1],["~#'",2]] => map(int 1, int 2)
        ["~#''",1] => tagged ''''(int 1)
        ["~#' ",1] => tagged '' '(int 1)
        """;

    private static final String COLLECTIONS = """
        ["~#set",[]] => set()
        ["~#list",[]] => list()
        ["~#cmap",[]] => map()
        ["~#set",[1]] => set(int 1)
        ["~#list",[1]] => list(int 1)
        ["~#list",[1,1]] => list(int 1, int 1)
        ["~#cmap",[1,2]] => map(int 1, int 2)
        ["~#cmap",[1,1,2,1]] => map(int 1, int 1, int 2, int 1)
        ["~#set",["~#'",[1]]] => set(int 1)
        ["~#cmap",["~#'",[1,2]]] => map(int 1, int 2)
        ["~#list",["~#'",["~#'",[1]]]] => list(int 1)
        ["~#set",["~^ ",1]] => set(str '^ ', int 1)
        ["~#se",1] => tagged 'se'(int 1)
        ["~#sett",1] => tagged 'sett'(int 1)
        ["~#Set",1] => tagged 'Set'(int 1)
        ["~#set ",1] => tagged 'set '(int 1)
        ["~# set",1] => tagged ' set'(int 1)
        ["~#lis",1] => tagged 'lis'(int 1)
        ["~#lists",1] => tagged 'lists'(int 1)
        ["~#cma",1] => tagged 'cma'(int 1)
        ["~#cmaps",1] => tagged 'cmaps'(int 1)
        ["~#map",1] => tagged 'map'(int 1)
        """;

    private static final String[] NO_ARRAYS = {
        "null", "1", "\"\"", "\"~zx\"", "[\"^ \"]", "[\"~#set\",[]]", "[\"~#list\",[]]", "[\"~#cmap\",[]]",
        "[\"~#a\",[]]", "[\"~#'\",1]",
    };

    private static final String MAPS = """
        ["^ "] => map()
        ["^ ",1,2] => map(int 1, int 2)
        ["^ ",1,2,3,4] => map(int 1, int 2, int 3, int 4)
        ["^ ",null,null] => map(null, null)
        ["^ ",[],[]] => map(array(), array())
        ["^ ","~^ ",1] => map(str '^ ', int 1)
        ["~^ "] => array(str '^ ')
        """;

    private static final String OTHER_ARRAYS = """
        [] => array()
        ["a",1] => array(str 'a', int 1)
        ["",1] => array(str '', int 1)
        ["~:ab",1] => array(key 'ab', int 1)
        ["~~#ab",1] => array(str '~#ab', int 1)
        ["~zx",1] => array(tagged 'z'(str 'x'), int 1)
        ["~_"] => array(null)
        [null,1] => array(null, int 1)
        [["~#a",1],2] => array(tagged 'a'(int 1), int 2)
        [["^ "],1,2] => array(map(), int 1, int 2)
        ["#set",[1]] => array(str '#set', array(int 1))
        ["~^ ",1,2] => array(str '^ ', int 1, int 2)
        """;

    private static final String ELSEWHERE = """
        "^ " => 0
        [1,"^ "] => 3
        ["a","^ "] => 5
        [[],"^ "] => 4
        ["^ ","^ ",1] => 6
        ["^ ",1,"^ "] => 8
        ["~#a","^ "] => 7
        ["~#'","^ "] => 7
        ["^ ",1,2,"^ ",3] => 10
        "~#" => 0
        "~#a" => 0
        "~#set" => 0
        [1,"~#a"] => 3
        [1,"~#"] => 3
        ["a","~#a",1] => 5
        ["~#a","~#a"] => 7
        ["^ ","~#ab",1] => 6
        ["^ ",1,"~#ab"] => 8
        ["~#"] => 1
        ["~#",1] => 1
        ["^"] => 1
        ["^  "] => 1
        ["^ a"] => 1
        [" ^ ","^ "] => 7
        """;

    public static void main(String[] args) {
        Check.sentence("without ~ , ^ or ` in front it is a STRING with that word");
        wordsOfOneCharacter();
        Check.sentence("~~ , ~^ and ~` in front: a STRING with the word without the first ~");
        Probe.eachRow(FRONTS, Edge::taken);
        Check.sentence("~_ alone: NULL; ~?t and ~?f alone: BOOLEAN 1 and 0");
        Probe.eachRow(ALONE, Edge::taken);
        Probe.eachRow(NOT_ALONE, Edge::refused);
        Check.sentence("~i and a number (as above, and nothing else): INTEGER; ~m and such a number: INSTANT");
        numbers();
        Check.sentence("~: and ~$ and at least one character more: KEYWORD and SYMBOL with these");
        Probe.eachRow(MORE, Edge::taken);
        Edge.refused("\"~:\"", 0);
        Edge.refused("\"~$\"", 0);
        Check.sentence("~c and one character: CHARACTER");
        characters();
        Check.sentence("~ , another letter a .. z or A .. Z, and a word, perhaps of no characters: TAGGED");
        letters();
        Check.sentence("When its raw word is ~# and at least one character more, the TAG, there is one element more");
        Probe.eachRow(TAGS, Edge::taken);
        Check.sentence("with the tag ' the array means what its content means");
        Probe.eachRow(QUOTES, Edge::taken);
        Check.sentence("with set, list and cmap the content means an ARRAY");
        Probe.eachRow(COLLECTIONS, Edge::taken);
        contentsThatAreNoArrays();
        Check.sentence("when its raw word is ^ and a space, it is a MAP: its further elements are the keys and their values");
        Probe.eachRow(MAPS, Edge::taken);
        Check.sentence("All other arrays are ARRAYS.");
        Probe.eachRow(OTHER_ARRAYS, Edge::taken);
        Check.sentence("(^ and a space, or ~# in front, elsewhere are errors.)");
        Probe.eachRow(ELSEWHERE, Edge::refused);
        Check.end();
    }

    private static void wordsOfOneCharacter() {
        Edge.taken("\"\"", "str ''");
        for (int c = 32; c <= 126; c++) {
            String word = Edge.escaped(c);
            if (c == '~' || c == '^' || c == '`') {
                Edge.refused(Edge.quoted(word), 0);
                Edge.taken(Edge.quoted(" " + word), "str ' " + (char) c + "'");
            } else {
                Edge.taken(Edge.quoted(word), "str '" + (char) c + "'");
                Edge.taken(Edge.quoted(word + "~:"), "str '" + (char) c + "~:'");
            }
        }
        Edge.refused("\"`a\"", 0);
        Edge.refused("\"^a\"", 0);
    }

    private static void numbers() {
        for (String number : NUMBERS) {
            Edge.taken(Edge.quoted("~i" + number), "int " + number);
            Edge.taken(Edge.quoted("~m" + number), "inst " + number);
        }
        for (String wrong : NO_NUMBERS) {
            Edge.refused(Edge.quoted("~i" + wrong), 0);
            Edge.refused(Edge.quoted("~m" + wrong), 0);
            Edge.refused("[1, " + Edge.quoted("~m" + wrong) + "]", 4);
        }
    }

    private static void characters() {
        Edge.refused("\"~c\"", 0);
        for (int c = 32; c <= 126; c++) {
            Edge.taken(Edge.quoted("~c" + Edge.escaped(c)), "char " + c);
            Edge.refused(Edge.quoted("~c" + Edge.escaped(c) + "a"), 0);
        }
    }

    private static void letters() {
        for (int c = 32; c <= 126; c++) {
            String two = Edge.quoted("~" + Edge.escaped(c));
            String many = Edge.quoted("~" + Edge.escaped(c) + "~~ a");
            boolean letter = c >= 'a' && c <= 'z' || c >= 'A' && c <= 'Z';
            if (c == 'i' || c == 'm' || c == 'c') {
                Edge.refused(two, 0);
                Edge.refused(many, 0);
            } else if (letter) {
                Edge.taken(two, "tagged '" + (char) c + "'(str '')");
                Edge.taken(many, "tagged '" + (char) c + "'(str '~~ a')");
            } else if ("~^`_".indexOf(c) < 0) {
                Edge.refused(two, 0);
            }
        }
        Edge.taken("\"~z~#set\"", "tagged 'z'(str '~#set')");
        Edge.taken("\"~z^ \"", "tagged 'z'(str '^ ')");
        Edge.taken("\"~z`\"", "tagged 'z'(str '`')");
    }

    private static void contentsThatAreNoArrays() {
        for (String tag : new String[] {"set", "list", "cmap"}) {
            String open = "[\"~#" + tag + "\",";
            for (String content : NO_ARRAYS) {
                Edge.refused(open + content + "]", open.length());
                Edge.refused(open + "  " + content + " ]", open.length() + 2);
            }
        }
    }
}
