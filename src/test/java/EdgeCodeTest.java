/** The boundary cases of codes in reading: which words are noted, their numbers, and what codes mean. */
public final class EdgeCodeTest {
    private static final int NUMBERS = 24;

    private static final String NOTED = """
        ["~:ab","^0"] => array(key 'ab', key 'ab')
        ["~$ab","^0"] => array(sym 'ab', sym 'ab')
        [["~#ab",1],["^0",2]] => array(tagged 'ab'(int 1), tagged 'ab'(int 2))
        ["~:abc","^0"] => array(key 'abc', key 'abc')
        ["~:  ","^0"] => array(key '  ', key '  ')
        ["~:a\\/","^0"] => array(key 'a/', key 'a/')
        ["~:\\"\\"","^0"] => array(key '""', key '""')
        ["~:^0","^0"] => array(key '^0', key '^0')
        [1,[[["~:ab"]]],"^0"] => array(int 1, array(array(array(key 'ab'))), key 'ab')
        [["~#set",[]],["^0",[1]]] => array(set(), set(int 1))
        [["~#list",[]],["^0",[1]]] => array(list(), list(int 1))
        [["~#cmap",[]],["^0",[1,2]]] => array(map(), map(int 1, int 2))
        """;

    private static final String NOT_NOTED = """
        ["~:a","^0"] => 7
        ["~$a","^0"] => 7
        [["~#a",1],["^0",2]] => 12
        [["~#'",1],["^0",2]] => 12
        ["~:\\"","^0"] => 8
        ["~:\\\\","^0"] => 8
        ["~:\\/","^0"] => 8
        ["abcd","^0"] => 8
        ["a~:b","^0"] => 8
        [" ~:b","^0"] => 8
        ["~zab","^0"] => 8
        ["~~:ab","^0"] => 9
        ["~^:ab","^0"] => 9
        ["~`:ab","^0"] => 9
        ["~i12","^0"] => 8
        ["~m12","^0"] => 8
        ["~Z:ab","^0"] => 9
        [["^ "],"^0"] => 8
        "^0" => 0
        ["^0","~:ab"] => 1
        """;

    private static final String NOTED_AS_KEY = """
        [["^ ","abcd",1],"^0"] => array(map(str 'abcd', int 1), str 'abcd')
        [["^ ","~~ab",1],"^0"] => array(map(str '~ab', int 1), str '~ab')
        [["^ ","~^ab",1],"^0"] => array(map(str '^ab', int 1), str '^ab')
        [["^ ","~`ab",1],"^0"] => array(map(str '`ab', int 1), str '`ab')
        [["^ ","~i12",1],"^0"] => array(map(int 12, int 1), int 12)
        [["^ ","~i-1",1],"^0"] => array(map(int -1, int 1), int -1)
        [["^ ","~m12",1],"^0"] => array(map(inst 12, int 1), inst 12)
        [["^ ","~zab",1],"^0"] => array(map(tagged 'z'(str 'ab'), int 1), tagged 'z'(str 'ab'))
        [["^ ","~:ab",1],"^0"] => array(map(key 'ab', int 1), key 'ab')
        [["^ ","ab\\/\\"",1],"^0"] => array(map(str 'ab/"', int 1), str 'ab/"')
        [["^ ",1,2,"abcd",3],"^0"] => array(map(int 1, int 2, str 'abcd', int 3), str 'abcd')
        ["^ ","abcd","^0"] => map(str 'abcd', str 'abcd')
        ["^ ","abcd",["^ ","^0",1]] => map(str 'abcd', map(str 'abcd', int 1))
        ["^ ","efgh",["^ ","abcd","^1"]] => map(str 'efgh', map(str 'abcd', str 'abcd'))
        ["^ ",["^ ","abcd",1],"^0"] => map(map(str 'abcd', int 1), str 'abcd')
        """;

    private static final String NOT_NOTED_AS_KEY = """
        [["^ ","",1],"^0"] => 13
        [["^ ","a",1],"^0"] => 14
        [["^ ","ab",1],"^0"] => 15
        [["^ ","~_",1],"^0"] => 15
        [["^ ","~z",1],"^0"] => 15
        [["^ ","abc",1],"^0"] => 16
        [["^ ","~~a",1],"^0"] => 16
        [["^ ","~i1",1],"^0"] => 16
        [["^ ","~?t",1],"^0"] => 16
        [["^ ","~ca",1],"^0"] => 16
        [["^ ","~za",1],"^0"] => 16
        [["^ ","ab\\"",1],"^0"] => 17
        [["^ ",1,"abcd"],"^0"] => 17
        [["^ ",["abcd"],1],"^0"] => 19
        [["^ ",["~#'","abcd"],1],"^0"] => 25
        [["^ ",1234,1],"^0"] => 15
        [["^ ",true,1],"^0"] => 15
        [["~#cmap",["abcd",1]],"^1"] => 23
        [["~#set",["abcd"]],"^1"] => 20
        [["~#list",["abcd"]],"^1"] => 21
        [["~#ab","abcd"],"^1"] => 17
        """;

    private static final String AS_IF_IT_STOOD_THERE = """
        [["~#set",[1]],["^0",[2]]] => array(set(int 1), set(int 2))
        [["^ ","name",1],["^0",2]] => array(map(str 'name', int 1), array(str 'name', int 2))
        [["^ ","name",1],["^ ","^0",2]] => array(map(str 'name', int 1), map(str 'name', int 2))
        [["^ ","name",1],["~#a","^0"]] => array(map(str 'name', int 1), tagged 'a'(str 'name'))
        [["^ ","~zab",1],["^0"]] => array(map(tagged 'z'(str 'ab'), int 1), array(tagged 'z'(str 'ab')))
        [["^ ","~i12",1,"3",2],"^0"] => array(map(int 12, int 1, str '3', int 2), int 12)
        [["^ ","~m-1",1,"3",2],"^0"] => array(map(inst -1, int 1, str '3', int 2), inst -1)
        ["~:ab","^0","^00","^0"] => array(key 'ab', key 'ab', key 'ab', key 'ab')
        """;

    private static final String AS_IF_IT_STOOD_THERE_REFUSED = """
        [["~#set",[1]],"^0"] => 15
        [["~#set",[1]],["^ ","^0",1]] => 21
        [["~#set",[1]],["~#a","^0"]] => 22
        [["~#set",[1]],[1,"^0"]] => 18
        [["~#ab",1],["^0"]] => 17
        [["~#ab",1],["^0",1,2]] => 19
        [["~#set",[1]],["^0",1]] => 21
        [["~#set",[1]],["^0",[1,1]]] => 24
        [["~#cmap",[]],["^0",[1]]] => 21
        ["^ ","name",1,"^0",2] => 15
        ["~#set",["~:ab","^1"]] => 17
        """;

    private static final String NOT_NOTED_AGAIN = """
        ["~:ab","^0","~:cd","^1"] => array(key 'ab', key 'ab', key 'cd', key 'cd')
        [["^ ","name",1],["^ ","^0",1],["^ ","more",1],"^1"] => array(map(str 'name', int 1), map(str 'name', int 1), map(str 'more', int 1), str 'more')
        [["~#ab",1],["^0",1],["~#cd",1],["^1",1]] => array(tagged 'ab'(int 1), tagged 'ab'(int 1), tagged 'cd'(int 1), tagged 'cd'(int 1))
        ["~:ab","~:ab","~:cd","^2"] => array(key 'ab', key 'ab', key 'cd', key 'cd')
        """;

    public static void main(String[] args) {
        longEnough();
        longEnoughKeys();
        nextNumbers();
        allNumbersUsed();
        codesOfOneDigit();
        codesOfTwoDigits();
        otherCodes();
        asIfItStoodThere();
        notNotedAgain();
        ofOneText();
        Check.end();
    }

    private static void longEnough() {
        Check.sentence("A raw word of more than three characters that begins with ~: , ~$ or ~#");
        Probe.eachRow(NOTED, Edge::taken);
        Probe.eachRow(NOT_NOTED, Edge::refused);
    }

    private static void longEnoughKeys() {
        Check.sentence("or of more than three characters that is a KEY of a map (see there), is NOTED when it is met");
        Probe.eachRow(NOTED_AS_KEY, Edge::taken);
        Probe.eachRow(NOT_NOTED_AS_KEY, Edge::refused);
    }

    /** What a code means behind so many keywords: its word, or the fault. */
    private static String meant(int count, String code) {
        Probe p = new Probe().put("[" + Edge.keywords(count) + "," + Edge.quoted(code) + "]");
        String answer = p.read(0);
        if (answer.equals(Edge.WRONG_TEXT)) {
            return "fault " + p.x.fault();
        }
        int k = count + 1;
        Check.due("kind of " + code, p.x.kind(0, k), 5);
        Check.due("size of " + code, p.x.size(0, k), 2);
        return "" + (char) p.x.letter(0, k, 0) + (char) p.x.letter(0, k, 1);
    }

    private static String missing(int count) {
        return "fault " + (1 + 7 * count);
    }

    private static String wordOf(int i) {
        return (char) ('a' + i) + "x";
    }

    private static void nextNumbers() {
        Check.sentence("it gets the next number of 0 .. 23");
        for (int count = 1; count <= NUMBERS; count++) {
            for (int n = 0; n < 36; n++) {
                String two = "^" + n / 6 + n % 6;
                String due = n < count ? wordOf(n) : missing(count);
                Check.due(two + " behind " + count, meant(count, two), due);
            }
        }
    }

    private static void allNumbersUsed() {
        Check.sentence("when all are used, all that were noted are forgotten before, and it gets 0.");
        for (int count = NUMBERS + 1; count <= 26; count++) {
            for (int n = 0; n < NUMBERS; n++) {
                String two = "^" + n / 6 + n % 6;
                String due = n < count - NUMBERS ? wordOf(n + NUMBERS) : missing(count);
                Check.due(two + " behind " + count, meant(count, two), due);
            }
        }
        // A code is no new word, so it neither needs a number nor has the others forgotten.
        String all = Edge.keywords(NUMBERS);
        Edge.taken("[" + all + ",\"^0\",\"^35\",\"^0\"]");
        Edge.taken("[" + all + ",\"abcd\",\"~:a\",\"^35\"]");
        Edge.taken("[" + all + ",[\"^ \",\"abcd\",\"^0\"]]");
        Edge.refused("[" + all + ",[\"^ \",\"abcd\",\"^1\"]]", 1 + 24 * 7 + 13);
        Edge.refused("[" + all + ",[\"~#ab\",\"^1\"]]", 1 + 24 * 7 + 8);
    }

    private static void codesOfOneDigit() {
        Check.sentence("A raw word of two characters, ^ and a digit 0 .. 5 (d), stands for the word that has the number d");
        for (int c = 32; c <= 126; c++) {
            boolean digit = c >= '0' && c <= '5';
            Check.due("^" + (char) c, meant(NUMBERS, "^" + Edge.escaped(c)), digit ? wordOf(c - '0') : missing(NUMBERS));
        }
        for (int count = 1; count <= 6; count++) {
            Check.due("last of " + count, meant(count, "^" + (count - 1)), wordOf(count - 1));
            Check.due("behind " + count, meant(count, "^" + count), missing(count));
        }
    }

    private static void codesOfTwoDigits() {
        Check.sentence("one of three, ^ and two such digits (c, d), for the one with the number 6 c + d");
        for (int c = '/'; c <= ':'; c++) {
            for (int d = '/'; d <= ':'; d++) {
                boolean digits = c >= '0' && c <= '5' && d >= '0' && d <= '5';
                int n = 6 * (c - '0') + d - '0';
                String due = digits && n < NUMBERS ? wordOf(n) : missing(NUMBERS);
                Check.due("^" + (char) c + (char) d, meant(NUMBERS, "^" + (char) c + (char) d), due);
            }
        }
    }

    private static void otherCodes() {
        Check.sentence("a code of a number that no word has");
        String[] codes = {"^", "^^", "^000", "^001", "^0 ", "^ 0", "^0a", "^a0", "^-1", "^0000", "^40", "^55", "`0"};
        for (String code : codes) {
            Check.due(code, meant(NUMBERS, code), missing(NUMBERS));
        }
        Edge.taken("[\"~:ab\",\"~^0\"]", "array(key 'ab', str '^0')");
        Edge.taken("[\"~:ab\",\" ^0\"]", "array(key 'ab', str ' ^0')");
    }

    private static void asIfItStoodThere() {
        Check.sentence("everything is as if that word stood there");
        Probe.eachRow(AS_IF_IT_STOOD_THERE, Edge::taken);
        Probe.eachRow(AS_IF_IT_STOOD_THERE_REFUSED, Edge::refused);
    }

    private static void notNotedAgain() {
        Check.sentence("but that it is not noted.");
        Probe.eachRow(NOT_NOTED_AGAIN, Edge::taken);
        Edge.refused("[\"~:ab\",\"^0\",\"^1\"]", 13);
        Edge.refused("[[\"^ \",\"name\",1],[\"^ \",\"^0\",1],\"^1\"]", 31);
    }

    private static void ofOneText() {
        Check.sentence("is NOTED when it is met", "in this text, not in one that was read or written before");
        Probe p = new Probe().put("[\"~:ab\",\"~:cd\"]");
        p.read(0);
        p.written(0);
        Check.due("behind a read", p.put("\"^0\"").read(1), Edge.WRONG_TEXT);
        p.put("[\"~:ab\",\"~:cd\",x").read(1);
        Check.due("behind a refused read", p.put("[\"~:ef\",\"^1\"]").read(1), Edge.WRONG_TEXT);
        Check.due("its fault", p.x.fault(), 8);
    }
}
