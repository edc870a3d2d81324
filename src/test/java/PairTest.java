/** Promises 14 to 16: pick, same, swap. */
public final class PairTest {
    private static final String SAME = """
        1 => "~i1"
        null => "~_"
        true => "~?t"
        "a" => "a"
        "~zab" => ["~#z","ab"]
        [] => [ ]
        ["~#'",[1]] => [1]
        ["~#set",[1,2,3]] => ["~#set",[3,1,2]]
        ["~#set",[["~#set",[1,2]],["~#set",[3]]]] => ["~#set",[["~#set",[3]],["~#set",[2,1]]]]
        ["^ ","a",1,"b",2] => ["~#cmap",["b",2,"a",1]]
        ["^ ",["~#set",[1,2]],["~#set",[3,4]],5,6] => ["^ ",5,6,["~#set",[2,1]],["~#set",[4,3]]]
        ["~#foo",["~#set",[1,2]]] => ["~#foo",["~#set",[2,1]]]
        ["~:abc","~:abc"] => ["~:abc","^0"]
        [[[[[[[["~zx"]]]]]]]] => [[[[[[[[ "~zx" ]]]]]]]]
        ["~#set",[["~#set",[["~#set",[["~#set",["~zx"]]]]]]]] => ["~#set",[["^0",[["^0",[["^0",["~zx"]]]]]]]]
        """;

    private static final String OTHER = """
        1 => 2
        1 => "1"
        1 => "~m1"
        0 => false
        0 => null
        "" => null
        "" => []
        "a" => "~:a"
        "a" => "b"
        "a" => "ab"
        "ab" => "a"
        "~:a" => "~$a"
        "~ca" => "a"
        "~ca" => "~cb"
        "~za" => "~zb"
        "~za" => "~ya"
        [[]] => [1]
        [1,2] => [2,1]
        [1,2] => [1]
        [1] => ["~#list",[1]]
        [1] => ["~#set",[1]]
        [] => ["^ "]
        ["~#list",[1,2]] => ["~#list",[2,1]]
        ["~#set",[1,2]] => ["~#set",[1,3]]
        ["~#set",[1,2]] => ["~#set",[1]]
        ["~#set",[1]] => ["~#set",[1,2]]
        ["^ ","a",1,"b",2] => ["^ ","a",2,"b",1]
        ["^ ","a",1,"b",2] => ["^ ","a",1,"c",2]
        ["^ ","a",1] => ["^ ",1,"a"]
        ["^ ","a",1] => ["^ ","a",1,"b",2]
        [[1],2] => [1,[2]]
        ["~#ab",1] => ["~#abc",1]
        ["~#ab",1] => ["~#ab",2]
        """;

    public static void main(String[] args) {
        Probe.eachRow(SAME, (a, b) -> compare(a, b, true));
        Probe.eachRow(OTHER, (a, b) -> compare(a, b, false));
        emptySlots();
        picking();
        pickedWords();
        swapping();
        Check.end();
    }

    private static void compare(String one, String other, boolean due) {
        Probe p = new Probe();
        Check.due("read of " + one, p.put(one).read(0).matches("\\d+"), true);
        Check.due("read of " + other, p.put(other).read(1).matches("\\d+"), true);
        Check.due(one + " and " + other, p.x.same(), due);
        p.x.swap();
        Check.due(other + " and " + one, p.x.same(), due);
    }

    private static void emptySlots() {
        Probe p = new Probe().put("null");
        Check.due("both empty", p.x.same(), true);
        p.x.swap();
        Check.due("both empty still", p.x.same(), true);
        p.read(0);
        Check.due("one empty", p.x.same(), false);
        p.x.swap();
        Check.due("the other empty", p.x.same(), false);
        Check.due("swapped", p.told(0) + p.told(1), "emptynull");
    }

    private static void picking() {
        Probe p = new Probe().put("[1,[\"~#set\",[\"a\",[\"b\",\"~zc\"]]],[\"^ \",\"~:name\",2]]");
        Check.due("read", p.read(0), "11");
        Check.due("pick(0, 11)", Probe.answer(() -> p.x.pick(0, 11)), "IndexOutOfBoundsException");
        Check.due("pick(0, -1)", Probe.answer(() -> p.x.pick(0, -1)), "IndexOutOfBoundsException");
        Check.due("pick(1, 0)", Probe.answer(() -> p.x.pick(1, 0)), "IndexOutOfBoundsException");
        Check.due("pick(2, 0)", Probe.answer(() -> p.x.pick(2, 0)), "IndexOutOfBoundsException");
        Check.due("pick(0, 0)", p.x.pick(0, 0), 11);
        Check.due("pick(0, 2)", p.x.pick(0, 2), 6);
        Check.due("a SET", p.told(0), "set(str 'a', array(str 'b', tagged 'z'(str 'c')))");
        Check.due("no more values", Probe.answer(() -> p.x.kind(0, 6)), "IndexOutOfBoundsException");
        Check.due("pick(0, 2)", p.x.pick(0, 2), 4);
        Check.due("an ARRAY", p.told(0), "array(str 'b', tagged 'z'(str 'c'))");
        Check.due("pick(0, 3)", p.x.pick(0, 3), 1);
        Check.due("a STRING", p.told(0), "str 'c'");
        Check.due("written", p.written(0), "[\"~#'\",\"c\"]");
    }

    private static void pickedWords() {
        Probe p = new Probe().put("[[\"^ \",\"name\",1],[\"^ \",\"^0\",\"~:abc\"]]");
        p.read(0);
        p.read(1);
        Check.due("pick(1, 4)", p.x.pick(1, 4), 3);
        Check.due("the other slot stays", p.x.values(0), 7);
        Check.due("written", p.written(1), "[\"^ \",\"name\",\"~:abc\"]");
        Check.due("told", p.told(1), "map(str 'name', key 'abc')");
        p.x.pick(0, 4);
        Check.due("same", p.x.same(), true);
    }

    private static void swapping() {
        Probe p = new Probe().put("[\"first\"]");
        p.read(0);
        p.put("[\"second\"]").read(1);
        p.x.swap();
        Check.due("slot 0", p.told(0), "array(str 'second')");
        Check.due("slot 1", p.told(1), "array(str 'first')");
        p.put("[3]").read(0);
        Check.due("slot 0 anew", p.told(0), "array(int 3)");
        Check.due("slot 1 stays", p.told(1), "array(str 'first')");
        p.x.swap();
        Check.due("text stays", p.text(), "[3]");
        Check.due("slot 0 back", p.told(0), "array(str 'first')");
    }
}
