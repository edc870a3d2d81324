import java.util.ArrayList;
import java.util.List;

/** The boundary cases of promises 14 to 16, pick, same and swap, and of which values are SAME. */
public final class EdgePairTest {
    /** All of these differ, most of them in one thing alone. */
    private static final String[] DIFFERENT = {
        "null", "true", "false", "0", "1", "-1", "9223372036854775807", "-9223372036854775808", "4294967297",
        "\"~m0\"", "\"~m1\"", "\"\"", "\"0\"", "\"1\"", "\"a\"", "\"A\"", "\"ab\"", "\"ba\"", "\"abc\"",
        "\"~:a\"", "\"~:ab\"", "\"~$a\"", "\"~ca\"", "\"~cA\"", "\"~c0\"", "\"~z\"", "\"~za\"", "\"~zb\"", "\"~ya\"",
        "[]", "[1]", "[0]", "[[]]", "[1,1]", "[1,2]", "[2,1]", "[1,2,3]", "[[1],2]", "[1,[2]]", "[[1,2]]", "[null]",
        "[\"~#list\",[]]", "[\"~#list\",[1]]", "[\"~#list\",[1,2]]", "[\"~#list\",[2,1]]", "[\"~#list\",[1,1]]",
        "[\"~#set\",[]]", "[\"~#set\",[1]]", "[\"~#set\",[2]]", "[\"~#set\",[1,2]]", "[\"~#set\",[1,3]]",
        "[\"~#set\",[1,2,3]]", "[\"~#set\",[[1,2]]]", "[\"~#set\",[[2,1]]]", "[\"~#set\",[[1,2],[2,1]]]",
        "[\"^ \"]", "[\"^ \",1,2]", "[\"^ \",2,1]", "[\"^ \",1,1]", "[\"^ \",1,2,2,1]", "[\"^ \",1,1,2,2]",
        "[\"^ \",1,2,2,2]", "[\"^ \",[1],2]", "[\"^ \",[2],1]", "[\"^ \",1,[2]]", "[\"^ \",1,2,3,4]", "[\"^ \",1,4,3,2]",
        "[\"~#a\",1]", "[\"~#a\",2]", "[\"~#b\",1]", "[\"~#aa\",1]", "[\"~#a\",[1]]", "[\"~#a\",\"a\"]", "[\"~#abcd\",1]",
        "[[\"~#a\",1]]", "[\"~#a\",[\"~#a\",1]]",
    };

    private static final String SAME_THINGS = """
        1 => "~i1"
        true => "~?t"
        false => "~?f"
        null => "~_"
        1 => ["~#'",1]
        [] => ["~#'",[]]
        "~za" => ["~#z","a"]
        "/" => "\\/"
        [ 1 , 2 ] => [1,2]
        ["^ ",1,2] => ["~#cmap",[1,2]]
        ["^ "] => ["~#cmap",[]]
        ["~:ab","^0"] => ["~:ab","~:ab"]
        """;

    public static void main(String[] args) {
        different();
        Check.sentence("Values are SAME when they have the same kind, number and word, as many parts, and the same parts in the same order");
        Probe.eachRow(SAME_THINGS, (a, b) -> compare(a, b, true));
        anyOrder();
        deepest();
        emptySlots();
        picked();
        pickedWords();
        pickRefused();
        swapped();
        Check.end();
    }

    private static void compare(String one, String other, boolean due) {
        Probe p = new Probe();
        Check.due("read of " + one, p.put(one).read(0).matches("\\d+"), true);
        Check.due("read of " + other, p.put(other).read(1).matches("\\d+"), true);
        String state = p.told(0) + p.told(1) + p.text();
        Check.due(one + " and " + other, p.x.same(), due);
        Check.due("same changes nothing", p.told(0) + p.told(1) + p.text(), state);
    }

    private static void different() {
        Check.sentence("Values are SAME when they have the same kind, number and word, as many parts, and the same parts");
        for (int i = 0; i < DIFFERENT.length; i++) {
            for (int j = 0; j < DIFFERENT.length; j++) {
                compare(DIFFERENT[i], DIFFERENT[j], i == j);
            }
        }
        Check.sentence("No two parts of a SET are same, nor two keys of a MAP.");
        for (int i = 0; i < DIFFERENT.length; i++) {
            String one = DIFFERENT[i];
            String other = DIFFERENT[(i + 1) % DIFFERENT.length];
            Edge.taken("[\"~#set\",[" + one + "," + other + "]]");
            Edge.taken("[\"~#cmap\",[" + one + ",1," + other + ",1]]");
            Edge.taken("[\"^ \"," + one + ",1," + other + ",1]");
            Edge.refused("[\"~#set\",[" + one + "," + one + "]]", 11 + one.length());
            Edge.refused("[\"~#cmap\",[" + one + ",1," + one + ",2]]", 14 + one.length());
            Edge.refused("[\"^ \"," + one + ",1," + one + ",2]", 9 + one.length());
        }
    }

    private static List<String> orders(List<String> items) {
        if (items.isEmpty()) {
            return List.of("");
        }
        List<String> all = new ArrayList<>();
        for (String first : items) {
            List<String> rest = new ArrayList<>(items);
            rest.remove(first);
            for (String order : orders(rest)) {
                all.add(order.isEmpty() ? first : first + "," + order);
            }
        }
        return all;
    }

    private static void anyOrder() {
        Check.sentence("but for SETS in any order, and for MAPS with their keys in any order, each key with the same value.");
        List<String> parts = List.of("1", "[1]", "\"~:a\"", "[\"~#set\",[1,2]]");
        List<String> entries = List.of("1,[1]", "[1],1", "\"a\",null", "[\"^ \",1,2],3");
        List<String> orders = orders(parts);
        List<String> mapOrders = orders(entries);
        for (int i = 0; i < orders.size(); i++) {
            String set = orders.get(i);
            compare("[\"~#set\",[" + orders.get(0) + "]]", "[\"~#set\",[" + set + "]]", true);
            compare("[\"~#list\",[" + orders.get(0) + "]]", "[\"~#list\",[" + set + "]]", i == 0);
            compare("[" + orders.get(0) + "]", "[" + set + "]", i == 0);
            compare("[\"~#a\",[" + orders.get(0) + "]]", "[\"~#a\",[" + set + "]]", i == 0);
            compare("[\"~#set\",[" + orders.get(0) + "]]", "[\"~#set\",[" + set.replace(":a", ":b") + "]]", false);
            compare("[\"~#set\",[" + orders.get(0) + "]]", "[\"~#set\",[" + set + ",5]]", false);
            compare("[\"~#set\",[" + orders.get(0) + ",5]]", "[\"~#set\",[" + set + "]]", false);
            String map = mapOrders.get(i);
            compare("[\"^ \"," + mapOrders.get(0) + "]", "[\"^ \"," + map + "]", true);
            compare("[\"^ \"," + mapOrders.get(0) + "]", "[\"~#cmap\",[" + map + "]]", true);
            compare("[\"^ \"," + mapOrders.get(0) + "]", "[\"^ \"," + map.replace("null", "0") + "]", false);
            compare("[\"^ \"," + mapOrders.get(0) + "]", "[\"^ \"," + map.replace("\"a\"", "\"b\"") + "]", false);
            compare("[\"^ \"," + mapOrders.get(0) + "]", "[\"^ \"," + map + ",5,5]", false);
        }
        compare("[\"^ \",[\"~#set\",[1,2]],[\"~#set\",[3,4]]]", "[\"^ \",[\"~#set\",[2,1]],[\"~#set\",[4,3]]]", true);
        compare("[\"^ \",[\"~#set\",[1,2]],[\"~#set\",[3,4]]]", "[\"^ \",[\"~#set\",[4,3]],[\"~#set\",[2,1]]]", false);
        compare("[[\"~#set\",[1,2]],1]", "[[\"~#set\",[2,1]],1]", true);
        compare("[\"~#a\",[\"~#set\",[1,2]]]", "[\"~#a\",[\"~#set\",[2,1]]]", true);
        Edge.refused("[\"~#set\",[[\"~#set\",[1,2]],[\"~#set\",[2,1]]]]", 26);
        Edge.refused("[\"^ \",[\"^ \",1,2,3,4],5,[\"^ \",3,4,1,2],6]", 23);
    }

    private static void deepest() {
        Check.sentence("Arrays may stand in one another 8 deep.", "values that deep are same or not");
        String open = "[[[[[[[[";
        String close = "]]]]]]]]";
        compare(open + "\"~za\"" + close, open + "\"~za\"" + close, true);
        compare(open + "\"~za\"" + close, open + "\"~zb\"" + close, false);
        compare(open + "\"~za\"" + close, open + "\"~ya\"" + close, false);
        compare(open + "1" + close, open + "2" + close, false);
        String sets = "[\"~#set\",[".repeat(4);
        compare(sets + "\"~za\",1" + close, sets + "1,\"~za\"" + close, true);
        compare(sets + "\"~za\",1" + close, sets + "1,\"~zb\"" + close, false);
        String maps = "[\"^ \",0,".repeat(8);
        compare(maps + "\"~za\"" + close, maps + "\"~za\"" + close, true);
        compare(maps + "\"~za\"" + close, maps + "\"~zb\"" + close, false);
    }

    private static void emptySlots() {
        Check.sentence("Whether both slots have values that are same, or both are empty.");
        Probe p = new Probe();
        Check.due("both empty", p.x.same(), true);
        p.put("null").read(0);
        Check.due("second one empty", p.x.same(), false);
        p.x.swap();
        Check.due("first one empty", p.x.same(), false);
        p.put("\"~_\"").read(0);
        Check.due("both NULL", p.x.same(), true);
        p.put("x").read(0);
        Check.due("both NULL behind an error", p.x.same(), true);
        p.put("[]").read(0);
        Check.due("an ARRAY and a NULL", p.x.same(), false);
    }

    private static void picked() {
        Check.sentence("The slot's value becomes value k in it alone; answers how many values are in it then.");
        String text = "[[10,[20],30],\"~z40\",[\"^ \",[50],60,70,[80]],90]";
        String[] told = {
            "array(array(int 10, array(int 20), int 30), tagged 'z'(str '40'), "
                + "map(array(int 50), int 60, int 70, array(int 80)), int 90)",
            "array(int 10, array(int 20), int 30)", "int 10", "array(int 20)", "int 20", "int 30",
            "tagged 'z'(str '40')", "str '40'", "map(array(int 50), int 60, int 70, array(int 80))",
            "array(int 50)", "int 50", "int 60", "int 70", "array(int 80)", "int 80", "int 90",
        };
        int[] counts = {16, 5, 1, 2, 1, 1, 2, 1, 7, 2, 1, 1, 1, 2, 1, 1};
        for (int k = 0; k < told.length; k++) {
            for (int slot = 0; slot < 2; slot++) {
                Probe p = new Probe().put(text);
                p.read(0);
                p.read(1);
                Check.due("pick(" + slot + ", " + k + ")", p.x.pick(slot, k), counts[k]);
                Check.due("values behind it", p.x.values(slot), counts[k]);
                Check.due("told behind it", p.told(slot), told[k]);
                Check.due("other slot", p.told(1 - slot), told[0]);
                Check.due("same behind it", p.x.same(), k == 0);
                Check.due("text behind it", p.text(), text);
                Check.due("fault behind it", p.x.fault(), -1);
                int s = slot;
                Check.due("first value that is gone", Probe.answer(() -> p.x.kind(s, p.x.values(s))), Edge.NO_PLACE);
            }
        }
    }

    private static void pickedWords() {
        Check.sentence(
                "The slot's value becomes value k in it alone", "it is written and compared as one that was read");
        Probe p = new Probe().put("[\"~:first\",[\"^ \",\"name\",[\"~:first\",\"~:first\"],\"more\",\"name\"]]");
        p.read(0);
        p.x.pick(0, 2);
        Check.due("written", p.written(0), "[\"^ \",\"name\",[\"~:first\",\"^1\"],\"more\",\"name\"]");
        p.read(1);
        Check.due("same", p.x.same(), true);
        p.x.pick(0, 2);
        Check.due("written", p.written(0), "[\"~:first\",\"^0\"]");
        p.x.pick(0, 2);
        Check.due("written", p.written(0), "[\"~#'\",\"~:first\"]");
        p.x.pick(0, 0);
        Check.due("told", p.told(0), "key 'first'");
        Probe q = new Probe().put("[[[[[[[[\"~zx\"]]]]]]]]");
        q.read(0);
        Check.due("too deep", q.written(0), Edge.TOO_MUCH);
        q.x.pick(0, 1);
        Check.due("no more too deep", q.written(0), "[[[[[[[[\"~#z\",\"x\"]]]]]]]]");
    }

    private static void pickRefused() {
        Check.sentence("IndexOutOfBoundsException when slot is not 0 or 1, or it has no value k.", "pick");
        for (int slot : Edge.NO_SLOTS) {
            for (int k = -1; k < 2; k++) {
                int v = k;
                Probe p = Edge.busy();
                Edge.throwing("pick(" + slot + ", " + k + ")", p, () -> p.x.pick(slot, v), Edge.NO_PLACE);
            }
        }
        for (int slot = 0; slot < 2; slot++) {
            int s = slot;
            int count = Edge.busy().x.values(slot);
            for (int k : new int[] {-1, count, count + 1, 240, Edge.LEAST, Edge.MOST}) {
                Probe p = Edge.busy();
                Edge.throwing("pick(" + slot + ", " + k + ")", p, () -> p.x.pick(s, k), Edge.NO_PLACE);
            }
            Check.due("the last one", Edge.busy().x.pick(slot, count - 1), 1);
            Probe fresh = new Probe();
            Edge.throwing("pick of none", fresh, () -> fresh.x.pick(s, 0), Edge.NO_PLACE);
        }
    }

    private static void swapped() {
        Check.sentence("Both slots exchange what they have.");
        Probe p = new Probe();
        p.x.swap();
        Check.due("both empty", p.told(0) + p.told(1), "emptyempty");
        p.put("[1,\"one\"]").read(0);
        p.x.swap();
        Check.due("one empty", p.told(0) + " " + p.told(1), "empty array(int 1, str 'one')");
        p.put("\"~ztwo\"").read(0);
        p.x.swap();
        Check.due("none empty", p.told(0) + " " + p.told(1), "array(int 1, str 'one') tagged 'z'(str 'two')");
        p.x.swap();
        p.x.swap();
        Check.due("twice more", p.told(0) + " " + p.told(1), "array(int 1, str 'one') tagged 'z'(str 'two')");
        Check.due("text stays", p.text(), "\"~ztwo\"");
        Check.due("written", p.written(1), "[\"~#z\",\"two\"]");
        p.x.pick(0, 2);
        Check.due("picked in one", p.told(0) + " " + p.told(1), "str 'one' tagged 'z'(str 'two')");
        p.put("x").read(0);
        p.x.swap();
        Check.due("fault stays", p.x.fault(), 0);
        Check.due("behind an error", p.told(0) + " " + p.told(1), "tagged 'z'(str 'two') str 'one'");
    }
}
