/** Promise 6: read, and with it the grammar, codes and meaning. */
public final class ReadTest {
    private static final String GRAMMAR = """
        null => null
        true => bool 1
        false => bool 0
          0   => int 0
        -1 => int -1
        10 => int 10
        9223372036854775807 => int 9223372036854775807
        -9223372036854775808 => int -9223372036854775808
        [] => array()
         [ ]  => array()
         [ 1 , [ ] , "a" ]  => array(int 1, array(), str 'a')
        "a\\"b\\\\c\\/d/" => str 'a"b\\c/d/'
        "" => str ''
        " a " => str ' a '
        "[,]" => str '[,]'
        [[[[[[[[]]]]]]]] => array(array(array(array(array(array(array(array())))))))
        [[[[[[[[]],[[]]]]]]]] => array(array(array(array(array(array(array(array()), array(array())))))))
        """;

    private static final String STRINGS = """
        "~~a" => str '~a'
        "~~" => str '~'
        "~^ " => str '^ '
        "~^0" => str '^0'
        "~`x" => str '`x'
        "~_" => null
        "~?t" => bool 1
        "~?f" => bool 0
        "~i0" => int 0
        "~i-9223372036854775808" => int -9223372036854775808
        "~m9223372036854775807" => inst 9223372036854775807
        "~m-1" => inst -1
        "~:k" => key 'k'
        "~:~:k" => key '~:k'
        "~$s t" => sym 's t'
        "~c\\"" => char 34
        "~c\\/" => char 47
        "~c " => char 32
        "~c~" => char 126
        "~z" => tagged 'z'(str '')
        "~A~~b" => tagged 'A'(str '~~b')
        "~Zz" => tagged 'Z'(str 'z')
        "~aa" => tagged 'a'(str 'a')
        "~I5" => tagged 'I'(str '5')
        "~M" => tagged 'M'(str '')
        "~Cab" => tagged 'C'(str 'ab')
        "~t^0" => tagged 't'(str '^0')
        "a~:b" => str 'a~:b'
        "#" => str '#'
        " ~:a" => str ' ~:a'
        """;

    private static final String ARRAYS = """
        ["^ "] => map()
        [ "^ " , 1 , 2 , "a" , null ] => map(int 1, int 2, str 'a', null)
        ["^ ",[1],2] => map(array(int 1), int 2)
        ["^ ",1,1,"1",1,"~m1",1] => map(int 1, int 1, str '1', int 1, inst 1, int 1)
        ["^ ",["^ "],["^ ",1,2]] => map(map(), map(int 1, int 2))
        ["~#'",5] => int 5
        ["~#'",["~#'",[1]]] => array(int 1)
        ["~#set",[]] => set()
        ["~#set",[2,1,"~m1"]] => set(int 2, int 1, inst 1)
        ["~#set",["~#'",[1,2]]] => set(int 1, int 2)
        [ "~#list" , [ 1 , 1 ] ] => list(int 1, int 1)
        ["~#cmap",[]] => map()
        ["~#cmap",[[1],2,[2],2]] => map(array(int 1), int 2, array(int 2), int 2)
        ["~#foo",[1]] => tagged 'foo'(array(int 1))
        ["~#i",1] => tagged 'i'(int 1)
        ["~#sets",1] => tagged 'sets'(int 1)
        ["~#Set",1] => tagged 'Set'(int 1)
        ["~#'x",1] => tagged ''x'(int 1)
        ["~##",1] => tagged '#'(int 1)
        ["~#x","~yz"] => tagged 'x'(tagged 'y'(str 'z'))
        [1,["^ ",2,3]] => array(int 1, map(int 2, int 3))
        ["~^ ",1] => array(str '^ ', int 1)
        ["~~#set",[1]] => array(str '~#set', array(int 1))
        ["~:a"] => array(key 'a')
        ["~#set",[["~#set",[1]],["~#list",[1]],[1],["^ ",1,1]]] => set(set(int 1), list(int 1), array(int 1), map(int 1, int 1))
        ["~#set",[[1,2],[2,1],["~#set",[1,2]]]] => set(array(int 1, int 2), array(int 2, int 1), set(int 1, int 2))
        """;

    private static final String CODES = """
        ["~:abc","^0","^00"] => array(key 'abc', key 'abc', key 'abc')
        ["~$ab","~:ab","^1","^0"] => array(sym 'ab', key 'ab', key 'ab', sym 'ab')
        ["~:a","~:ab","^0"] => array(key 'a', key 'ab', key 'ab')
        ["~:ab","~:ab","~:cd","^1","^2"] => array(key 'ab', key 'ab', key 'cd', key 'ab', key 'cd')
        ["~:ab","^0","~:cd","^1"] => array(key 'ab', key 'ab', key 'cd', key 'cd')
        [["~#set",[1]],["^0",[2]]] => array(set(int 1), set(int 2))
        [["~#ab",1],["^0",2]] => array(tagged 'ab'(int 1), tagged 'ab'(int 2))
        ["~:\\"\\\\","^0"] => array(key '"\\', key '"\\')
        [["^ ","name",1],["^ ","^0",2],"^0"] => array(map(str 'name', int 1), map(str 'name', int 2), str 'name')
        [["^ ","~i12",1],"^0"] => array(map(int 12, int 1), int 12)
        [["^ ","~i12",1,"3",2],"^0"] => array(map(int 12, int 1, str '3', int 2), int 12)
        [["^ ","~i1","name","~zab",3],"^0"] => array(map(int 1, str 'name', tagged 'z'(str 'ab'), int 3), tagged 'z'(str 'ab'))
        [["^ ","~~ab",1],"^0"] => array(map(str '~ab', int 1), str '~ab')
        [["^ ",["name","text"],1,"word",2],"^0"] => array(map(array(str 'name', str 'text'), int 1, str 'word', int 2), str 'word')
        [["^ ",["~#'","name"],1,"word",2],"^0"] => array(map(str 'name', int 1, str 'word', int 2), str 'word')
        [["~#cmap",["name",1,"word",2]],"~:kk","^1",["^0",[]]] => array(map(str 'name', int 1, str 'word', int 2), key 'kk', key 'kk', map())
        ["~~:ab","~zabc","~i12","~:cd","^0"] => array(str '~:ab', tagged 'z'(str 'abc'), int 12, key 'cd', key 'cd')
        """;

    public static void main(String[] args) {
        Probe.eachRow(GRAMMAR, ReadTest::means);
        Probe.eachRow(STRINGS, ReadTest::means);
        Probe.eachRow(ARRAYS, ReadTest::means);
        Probe.eachRow(CODES, ReadTest::means);
        manyCodes();
        codesOfTwoDigits();
        codesLiveInOneRead();
        slotsAndCounts();
        fullTexts();
        depthInMaps();
        nothingIsLeftOfEarlierReads();
        Check.end();
    }

    private static void means(String text, String told) {
        Probe p = new Probe().put(text);
        String answer = p.read(0);
        Check.due("read of " + text, answer, String.valueOf(p.x.values(0)));
        Check.due("meaning of " + text, p.told(0), told);
        Check.due("fault of " + text, p.x.fault(), -1);
        Check.due("text stays", p.text(), text);
    }

    private static String readWith(int count, String code) {
        Probe p = new Probe().put("[" + Edge.keywords(count) + ",\"" + code + "\"]");
        String answer = p.read(1);
        if (!answer.equals(String.valueOf(count + 2))) {
            return answer;
        }
        return p.x.size(1, count + 1) + "" + (char) p.x.letter(1, count + 1, 0);
    }

    private static void manyCodes() {
        Check.due("^53 of 23", readWith(23, "^35"), "IllegalArgumentException");
        Check.due("^35 of 24", readWith(24, "^35"), "2x".replace('x', (char) ('a' + 23)));
        Check.due("^0 of 24", readWith(24, "^0"), "2a");
        Check.due("^40 of 24", readWith(24, "^40"), "IllegalArgumentException");
        Check.due("^55 of 24", readWith(24, "^55"), "IllegalArgumentException");
        Check.due("^0 of 25", readWith(25, "^0"), "2" + (char) ('a' + 24));
        Check.due("^1 of 25", readWith(25, "^1"), "IllegalArgumentException");
        Check.due("^35 of 25", readWith(25, "^35"), "IllegalArgumentException");
        Check.due("^1 of 26", readWith(26, "^1"), "2" + (char) ('a' + 25));
    }

    private static void codesOfTwoDigits() {
        Check.due("^5 of 6", readWith(6, "^5"), "2f");
        Check.due("^05 of 6", readWith(6, "^05"), "2f");
        Check.due("^10 of 7", readWith(7, "^10"), "2g");
        Check.due("^6 of 7", readWith(7, "^6"), "IllegalArgumentException");
        Check.due("^06 of 7", readWith(7, "^06"), "IllegalArgumentException");
        Check.due("^21 of 14", readWith(14, "^21"), "2n");
        Check.due("^010 of 7", readWith(7, "^010"), "IllegalArgumentException");
    }

    private static void codesLiveInOneRead() {
        Probe p = new Probe().put("\"~:abc\"");
        Check.due("first read", p.read(0), "1");
        p.put("\"^0\"");
        Check.due("codes of an earlier read", p.read(0), "IllegalArgumentException");
    }

    private static void slotsAndCounts() {
        Probe p = new Probe().put("[1,[2,\"~zx\"]]");
        Check.due("read(2)", p.read(2), "IndexOutOfBoundsException");
        Check.due("read(-1)", p.read(-1), "IndexOutOfBoundsException");
        Check.due("read(least)", p.read(Integer.MIN_VALUE), "IndexOutOfBoundsException");
        Check.due("slots stay", p.told(0) + p.told(1), "emptyempty");
        Check.due("read(1)", p.read(1), "6");
        Check.due("slot 0 stays", p.told(0), "empty");
        p.put("[");
        Check.due("wrong text", p.read(1), "IllegalArgumentException");
        Check.due("slot 1 stays", p.told(1), "array(int 1, array(int 2, tagged 'z'(str 'x')))");
        Check.due("wrong text, wrong slot", p.read(3), "IndexOutOfBoundsException");
        p.put("[\"later\"]");
        Check.due("read(1) again", p.read(1), "2");
        Check.due("slot 1 new", p.told(1), "array(str 'later')");
    }

    private static void depthInMaps() {
        String open = "[[[[[[";
        String close = "]]]]]]";
        Check.due("value in the eighth", new Probe().put(open + "[\"^ \",1,[]]" + close).read(0), "9");
        Check.due("key in the eighth", new Probe().put(open + "[\"^ \",[],1]" + close).read(0), "9");
        Check.due("content in the eighth", new Probe().put(open + "[\"~#a\",[]]" + close).read(0), "8");
        String ninth = "IllegalArgumentException";
        Check.due("value in the ninth", new Probe().put(open + "[[\"^ \",1,[]]]" + close).read(0), ninth);
        Check.due("key in the ninth", new Probe().put(open + "[[\"^ \",[],1]]" + close).read(0), ninth);
        Check.due("content in the ninth", new Probe().put(open + "[[\"~#a\",[]]]" + close).read(0), ninth);
    }

    private static void nothingIsLeftOfEarlierReads() {
        Probe p = new Probe();
        for (int i = 0; i < 9; i++) {
            String word = String.valueOf((char) ('a' + i)).repeat(230);
            Check.due("long read " + i, p.put("[\"" + word + "\"]").read(i % 2), "2");
            Check.due("long word " + i, p.told(i % 2), "array(str '" + word + "')");
        }
        for (int i = 0; i < 3; i++) {
            p.put("[[1,2],\"abc\",[\"~#tag\",3]]").read(0);
            p.put("[1,2,3,4,5,[6],[]]").read(0);
            Check.due("numbers", p.told(0), "array(int 1, int 2, int 3, int 4, int 5, array(int 6), array())");
            p.put("[[],null,[],[],\"~ca\",true,[]]").read(0);
            Check.due("others", p.told(0), "array(array(), null, array(), array(), char 97, bool 1, array())");
        }
    }

    private static void fullTexts() {
        Check.due("119 numbers", new Probe().put("[1" + ",1".repeat(118) + "]").read(0), "120");
        Check.due("empty arrays", new Probe().put("[[]" + ",[]".repeat(78) + "]").read(0), "80");
        Check.due("tagged strings", new Probe().put("[\"~a\"" + ",\"~b\"".repeat(46) + "]").read(0), "95");
        Probe p = new Probe().put("[\"~:" + "x".repeat(115) + "\"" + ",\"^0\"".repeat(23) + "]");
        Check.due("a long word often", p.read(0), "25");
        Check.due("the last one", p.x.size(0, 24), 115);
        Check.due("its last letter", p.x.letter(0, 24, 114), (int) 'x');
        Check.due("a string of 238", new Probe().put("\"" + "y".repeat(238) + "\"").read(0), "1");
    }
}
