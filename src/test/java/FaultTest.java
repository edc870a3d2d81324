/** Promise 7: fault, and with it the errors and their places. */
public final class FaultTest {
    private static final String CHARACTERS = """
         => 0
            => 3
        nul => 3
        nulx => 3
        Null => 0
        tru] => 3
        falsy => 4
        nullnull => 4
        1 2 => 2
        01 => 1
        00 => 1
        -0 => 1
        - => 1
        -x => 1
        -- => 1
        +1 => 0
        1.5 => 1
        1e5 => 1
        ' => 0
        ] => 0
        , => 0
        "abc => 4
        "ab\\ => 4
        "a\\b" => 3
        "a\\ " => 3
        "~i05 => 5
        "a"" => 3
        [ => 1
        [  => 2
        [, => 1
        [1 => 2
        [1, => 3
        [1,] => 3
        [1 2] => 3
        [1]] => 3
        [1] x => 4
        [1;2] => 2
        [-] => 2
        [-,1] => 2
        [[] => 3
        [}  => 1
        """;

    private static final String NUMBERS = """
        9223372036854775808 => 0
        -9223372036854775809 => 0
        [1, 9999999999999999999] => 4
        [1, -12345678901234567890] => 4
        12345678901234567890123 => 0
        9223372036854775808x => 0
        [9223372036854775808 => 1
        9223372036854775807x => 19
        """;

    private static final String DEPTH = """
        [[[[[[[[[ => 8
        [[[[[[[[[]]]]]]]]] => 8
        [[[[[[[[ [ => 9
        [[[[[[[1,[ ],[[]]]]]]]]] => 14
        [[[[[[[["~#'",[]]]]]]]]] => 14
        ["~#set",[["~#set",[["~#set",[["~#set",[["~#list",[]]]]]]]]]] => 40
        """;

    private static final String WORDS = """
        "~" => 0
        "`" => 0
        "`abc" => 0
        "^" => 0
        "^ " => 0
        "^0" => 0
        "^6" => 0
        "^a" => 0
        "^000" => 0
        "^ab" => 0
        "~:" => 0
        "~$" => 0
        "~#" => 0
        "~#a" => 0
        "~#set" => 0
        "~_x" => 0
        "~?" => 0
        "~?x" => 0
        "~?tt" => 0
        "~i" => 0
        "~i-" => 0
        "~i-0" => 0
        "~i05" => 0
        "~i5 " => 0
        "~i 5" => 0
        "~i9223372036854775808" => 0
        "~i12345678901234567890" => 0
        "~m" => 0
        "~mx" => 0
        "~m-9223372036854775809" => 0
        "~c" => 0
        "~cab" => 0
        "~1" => 0
        "~ a" => 0
        "~'a" => 0
        "~\\"" => 0
        [1,"^ "] => 3
        [1, "~#a"] => 4
        ["~#"] => 1
        ["~#",1] => 1
        ["^  "] => 1
        ["^ ","^ ",1] => 6
        ["^ ",1,"~#ab"] => 8
        ["^ ","~#ab",1] => 6
        ["~#a","^ "] => 7
        ["~#'","~#'"] => 7
        ["~:ab","^1"] => 8
        ["~:a","^0"] => 7
        ["name","^0"] => 8
        ["^ ","abc",1,"^0",2] => 14
        [["^ ","name",1],"^1"] => 17
        [["~#ab",1],"^0"] => 12
        """;

    private static final String TAGGED_ARRAYS = """
        ["~#a"] => 6
        ["~#a",] => 7
        ["~#a",1,2] => 8
        ["~#a" 1] => 7
        ["~#a",1 => 8
        ["~#'"] => 6
        ["~#set"] => 8
        ["~#set",[1],[2]] => 12
        ["~#set",1] => 9
        ["~#set", "a"] => 10
        ["~#list",["~#list",[]]] => 10
        ["~#set",["^ "]] => 9
        ["~#set",["~#foo",[1]]] => 9
        ["~#set",["~#'",1]] => 9
        ["~#cmap",["~#'",[1]]] => 10
        ["~#cmap",[1,2,3]] => 10
        ["~#cmap",{}] => 10
        ["~#set",1,2] => 10
        ["~#set",1 x => 11
        ["~#set",1 => 10
        [["~#set",1],x] => 10
        """;

    private static final String TWINS = """
        ["~#set",[1,2,1]] => 14
        ["~#set",[1,2,2,1]] => 14
        ["~#set",[1, "~i1"]] => 13
        ["~#set",[null,"~_"]] => 15
        ["~#set",["~?t",true]] => 16
        ["~#set",[1,["~#'",1]]] => 12
        ["~#set",["~#'",[1, 1]]] => 20
        ["~#set",[["~#set",[1,2]],["^0",[2,1]]]] => 26
        ["~#set",[["^ ",1,2,3,4],["^ ",3,4,1,2]]] => 25
        ["~#set",["~zx",["~#z","x"]]] => 16
        ["~#set",["~:ab","^1"]] => 17
        ["~#set",[1,1] => 14
        ["~#set",[1,1],2] => 14
        [["~#set",[1,1]],x] => 13
        ["~#cmap",[1,1,2,1,1,3]] => 19
        ["~#cmap",[1,1,1,1,2]] => 10
        ["^ ",1,1,2,1,1,3] => 14
        ["^ ","a",1, "a",1] => 13
        ["^ ","a",1,"a",1 => 17
        ["^ ","a",1,"a",x => 16
        ["^ ","name",1,"^0",2] => 15
        ["^ ",["~#set",[1,2]],1,["^0",[2,1]],1] => 24
        """;

    private static final String KEYS = """
        ["^ ",1] => 7
        ["^ ",1,] => 8
        ["^ ",] => 6
        ["^ ",1,2,3] => 11
        ["^ ",1 2] => 8
        ["^ ",1 => 7
        ["^ " 1] => 6
        ["^ ",1,2 => 9
        """;

    public static void main(String[] args) {
        Probe.eachRow(CHARACTERS, FaultTest::fails);
        Probe.eachRow(NUMBERS, FaultTest::fails);
        Probe.eachRow(DEPTH, FaultTest::fails);
        Probe.eachRow(WORDS, FaultTest::fails);
        Probe.eachRow(TAGGED_ARRAYS, FaultTest::fails);
        Probe.eachRow(TWINS, FaultTest::fails);
        Probe.eachRow(KEYS, FaultTest::fails);
        longUnfinishedTexts();
        latestRead();
        Check.end();
    }

    private static void fails(String text, String place) {
        Probe p = new Probe().put("[7]");
        p.read(0);
        p.put(text);
        Check.due("read of " + text, p.read(0), "IllegalArgumentException");
        Check.due("fault of " + text, String.valueOf(p.x.fault()), place);
        Check.due("text stays", p.text(), text);
        Check.due("slot stays", p.told(0), "array(int 7)");
    }

    private static void longUnfinishedTexts() {
        fails("[[[[[[[[1" + ",1".repeat(115) + ",", "240");
        fails("[[[[[[[[1" + ",1".repeat(115), "239");
        fails("[" + "[],".repeat(79) + "[", "239");
        fails(" ".repeat(240), "240");
        fails("\"" + "a".repeat(239), "240");
    }

    private static void latestRead() {
        Probe p = new Probe().put("[1,x]");
        Check.due("no read", p.x.fault(), -1);
        p.read(5);
        Check.due("no slot", p.x.fault(), -1);
        p.read(0);
        Check.due("error", p.x.fault(), 3);
        p.read(2);
        Check.due("no slot behind an error", p.x.fault(), 3);
        p.x.wipe();
        p.x.swap();
        Probe.answer(() -> p.x.write(0));
        Probe.answer(() -> p.x.pick(0, 0));
        Check.due("other calls leave it", p.x.fault(), 3);
        p.put("5").read(1);
        Check.due("no error", p.x.fault(), -1);
    }
}
