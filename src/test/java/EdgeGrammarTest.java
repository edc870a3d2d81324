/** The boundary cases of the grammar: elements, arrays, numbers, strings and how deep arrays stand. */
public final class EdgeGrammarTest {
    private static final String[] SPACES = {
        "1 => int 1", " 1 => int 1", "1  => int 1", "   null   => null", " \"a\"  => str 'a'", " []  => array()",
    };

    private static final String TWO_ELEMENTS = """
        1 2 => 2
        1  , => 3
        null null => 5
        nullnull => 4
        "a""b" => 3
        [][] => 2
        [] ] => 3
        """;

    private static final String NAMES = """
        n => 1
        nu => 2
        nul => 3
        nulL => 3
        nulll => 4
        nu ll => 2
        NULL => 0
        t => 1
        tr => 2
        tru => 3
        truE => 3
        truee => 4
        t rue => 1
        f => 1
        fa => 2
        fal => 3
        fals => 4
        falsE => 4
        falsee => 5
        True => 0
        undefined => 0
        [nul] => 4
        """;

    private static final String ARRAYS_TAKEN = """
        [] => array()
        [ ] => array()
        [   ] => array()
        [1] => array(int 1)
        [ 1 ] => array(int 1)
        [1,2] => array(int 1, int 2)
        [ 1 , 2 ] => array(int 1, int 2)
        [  1  ,  2  ]   => array(int 1, int 2)
        [[],[]] => array(array(), array())
        [ [ ] , [ ] ] => array(array(), array())
        ["a" , "b"] => array(str 'a', str 'b')
        [ "^ " , 1 , 2 ] => map(int 1, int 2)
        [ "~#a" , 1 ] => tagged 'a'(int 1)
        """;

    private static final String ARRAYS_REFUSED = """
        [ => 1
        [  => 2
        ] => 0
        [, => 1
        [,] => 1
        [ ,1] => 2
        [1,] => 3
        [1, ] => 4
        [1,,2] => 3
        [1 2] => 3
        [1 => 2
        [1  => 3
        [1, => 3
        [[] => 3
        [[]] ] => 5
        [1)] => 2
        (1] => 0
        {} => 0
        """;

    private static final String NUMBERS_TAKEN = """
        0 => int 0
        1 => int 1
        9 => int 9
        -1 => int -1
        -9 => int -9
        10 => int 10
        1000000000000000000 => int 1000000000000000000
        -1000000000000000000 => int -1000000000000000000
        999999999999999999 => int 999999999999999999
        9223372036854775799 => int 9223372036854775799
        9223372036854775800 => int 9223372036854775800
        9223372036854775806 => int 9223372036854775806
        9223372036854775807 => int 9223372036854775807
        -9223372036854775807 => int -9223372036854775807
        -9223372036854775808 => int -9223372036854775808
        2147483648 => int 2147483648
        4294967296 => int 4294967296
        """;

    private static final String NUMBERS_REFUSED = """
        00 => 1
        01 => 1
        0123456789012345678901 => 1
        -0 => 1
        -01 => 1
        - => 1
        -- => 1
        --1 => 1
        - 1 => 1
        -a => 1
        -: => 1
        -/ => 1
        +1 => 0
        : => 0
        / => 0
        . => 0
        1- => 1
        1: => 1
        1/ => 1
        1. => 1
        0.0 => 1
        1e1 => 1
        1 0 => 2
        """;

    private static final String OUT_OF_RANGE = """
        9223372036854775808 => 0
        9223372036854775810 => 0
        9223372036854775817 => 0
        9300000000000000000 => 0
        9999999999999999999 => 0
        -9223372036854775809 => 0
        -9223372036854775810 => 0
        -9999999999999999999 => 0
        10000000000000000000 => 0
        -10000000000000000000 => 0
        18446744073709551615 => 0
        18446744073709551616 => 0
        18446744073709551617 => 0
        -18446744073709551615 => 0
        92233720368547758070 => 0
        100000000000000000000000000000000000001 => 0
          9223372036854775808 => 2
        [1,9223372036854775808] => 3
        [1, -9223372036854775809 ] => 4
        ["^ ",9223372036854775808,1] => 6
        9223372036854775808x => 0
        9223372036854775808 1 => 0
        """;

    public static void main(String[] args) {
        oneElement();
        names();
        arrays();
        numbers();
        digitRows();
        range();
        strings();
        escapes();
        deep();
        Check.end();
    }

    private static void oneElement() {
        Check.sentence("an element, perhaps with spaces before and behind it.");
        for (String row : SPACES) {
            Probe.eachRow(row, Edge::taken);
        }
        Probe.eachRow(TWO_ELEMENTS, Edge::refused);
        Edge.refused("", 0);
        Edge.refused(" ", 1);
        Edge.refused(" ".repeat(240), 240);
        Edge.taken(" ".repeat(239) + "7", "int 7");
        Edge.taken("7" + " ".repeat(239), "int 7");
        Edge.refused("7" + " ".repeat(238) + "7", 239);
        for (int c = 32; c <= 126; c++) {
            String whole = String.valueOf((char) c);
            if (Character.isDigit(c)) {
                Edge.taken(whole, "int " + whole);
            } else {
                // These begin an element, or are no part of it, so that its end is missed behind them.
                Edge.refused(whole, " [\"-ntf".indexOf(c) >= 0 ? 1 : 0);
            }
        }
    }

    private static void names() {
        Check.sentence("An ELEMENT is null, true or false; a number; a string; or an ARRAY");
        Edge.taken("null", "null");
        Edge.taken("true", "bool 1");
        Edge.taken("false", "bool 0");
        Probe.eachRow(NAMES, Edge::refused);
    }

    private static void arrays() {
        Check.sentence("[ , elements with , between them (perhaps none), ] , with spaces allowed before and behind all of these.");
        Probe.eachRow(ARRAYS_TAKEN, Edge::taken);
        Probe.eachRow(ARRAYS_REFUSED, Edge::refused);
        Check.due("most elements", new Probe().put("[1" + ",1".repeat(118) + "]").read(0), "120");
        Check.due("most elements and a space", new Probe().put("[1" + ",1".repeat(118) + " ]").read(0), "120");
        Edge.refused("[1" + ",1".repeat(119), 240);
    }

    private static void numbers() {
        Check.sentence("A NUMBER is 0, or perhaps - and then a row of 1 to 19 digits that does not begin with 0");
        Probe.eachRow(NUMBERS_TAKEN, Edge::taken);
        Probe.eachRow(NUMBERS_REFUSED, Edge::refused);
    }

    private static void digitRows() {
        Check.sentence("a row of 1 to 19 digits");
        for (int digits = 1; digits <= 25; digits++) {
            String row = "1".repeat(digits);
            if (digits <= 19) {
                Edge.taken(row, "int " + row);
                Edge.taken("-" + row, "int -" + row);
            } else {
                Edge.refused(row, 0);
                Edge.refused("-" + row, 0);
                Edge.refused(" [ " + row + " ] ", 3);
            }
        }
        Edge.refused("1".repeat(240), 0);
    }

    private static void range() {
        Check.sentence("and is in the range of 64 bits.");
        Probe.eachRow(OUT_OF_RANGE, Edge::refused);
    }

    private static void strings() {
        Check.sentence("A STRING is \" , characters, \"");
        Edge.taken("\"\"", "str ''");
        for (int c = 32; c <= 126; c++) {
            if (c != '"' && c != '\\') {
                Edge.taken(Edge.quoted("x" + (char) c + "x"), "str 'x" + (char) c + "x'");
            }
        }
        Edge.taken(Edge.quoted("a".repeat(238)), "str '" + "a".repeat(238) + "'");
        Edge.refused("\"" + "a".repeat(239), 240);
        Edge.refused("\"", 1);
        Edge.refused("\"\"\"", 2);
        Edge.refused("[\"a]", 4);
        Edge.refused("'a'", 0);
        Edge.refused("[\"a\"b\"]", 4);
    }

    private static void escapes() {
        Check.sentence("\" and \\ stand for themselves only behind a \\ (which is no part of it), where / may stand as well.");
        for (int c = 32; c <= 126; c++) {
            String text = "\"x\\" + (char) c + "x\"";
            if (c == '"' || c == '\\' || c == '/') {
                Edge.taken(text, "str 'x" + (char) c + "x'");
            } else {
                Edge.refused(text, 3);
            }
        }
        Edge.refused("\"\\", 2);
        Edge.refused("\"\\\"", 3);
        Edge.refused("\"\\\\\\\"", 5);
        Edge.refused("\"\\\\\"\"", 4);
        Edge.taken("\"\\\\\\\"\"", "str '\\\"'");
        Edge.taken("\"/\\/\"", "str '//'");
        Edge.taken(Edge.quoted("\\\"".repeat(119)), "str '" + "\"".repeat(119) + "'");
        Edge.refused("\\\"a\"", 0);
        Edge.refused("[\\]", 1);
    }

    private static void deep() {
        Check.sentence("Arrays may stand in one another 8 deep.");
        String[] opens = {"[", "[ ", "[1,", "[\"a\",", "[\"^ \",1,", "[\"~#a\",", "[\"~#'\","};
        for (String open : opens) {
            deepOf(open, 8 * open.length());
        }
        // Here an empty array stands before the next one, so it is the first that is too deep.
        deepOf("[[],", 7 * "[[],".length() + 1);
        Edge.taken("[[[[[[[[],[]],[]],[]],[]],[]],[]],[[[[[[[]]]]]]]]");
        Edge.refused("[[[[[[[[],[]],[]],[]],[]],[]],[]],[[[[[[[[]]]]]]]]]", 41);
        Edge.taken("[[[[[[[\"^ \",[],[]]]]]]]]");
        Edge.refused("[[[[[[[[\"^ \",[],1]]]]]]]]", 13);
        Edge.refused("[[[[[[[[\"^ \",1,[]]]]]]]]]", 15);
        Edge.taken("\"[[[[[[[[[[\"", "str '[[[[[[[[[['");
    }

    private static void deepOf(String open, int ninth) {
        for (int depth = 1; depth <= 10; depth++) {
            String text = open.repeat(depth - 1) + "[" + "]".repeat(depth);
            if (depth <= 8) {
                Edge.taken(text);
            } else {
                Edge.refused(text, ninth);
                Edge.refused(text.substring(0, ninth + 1), ninth);
            }
        }
    }
}
