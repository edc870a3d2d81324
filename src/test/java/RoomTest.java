import java.lang.management.ManagementFactory;

/** The room of one run: a new object takes little of it, and calls that throw nothing take none. */
public final class RoomTest {
    private static final com.sun.management.ThreadMXBean THREADS =
            (com.sun.management.ThreadMXBean) ManagementFactory.getThreadMXBean();
    private static final int CALLS = 512;

    public static void main(String[] args) {
        String[] texts = {
            "[1" + ",1".repeat(118) + "]",
            "[\"~:" + "x".repeat(115) + "\"" + ",\"^0\"".repeat(23) + "]",
            "[\"~#set\",[[\"~#set\",[1,2,3,4,5,6,7,8,9]],[\"^0\",[9,8,7,6,5,4,3,2,0]],[\"^ \",1,2,3,4,5,6,7,8,9,0]]]",
            "[[\"^ \",\"name\",1,\"text\",2,\"more\",3,12,12,123,123],[\"~#cmap\",[[1],2,[3],4]],[\"~#foo\",\"~zabc\"]]",
        };
        for (String text : texts) {
            // The first round loads classes; the second one is counted.
            run(text);
            long used = run(text);
            Check.due(CALLS + " calls with " + text + " take little room: " + used, used < 4096, true);
        }
        long before = bytes();
        RollingTransit x = new RollingTransit();
        long made = bytes() - before;
        Check.due("a new object takes " + made + " bytes, at most 64 KiB", made <= 65536, true);
        Check.due("new", x.length(), 0);
        Check.end();
    }

    private static long bytes() {
        return THREADS.getThreadAllocatedBytes(Thread.currentThread().getId());
    }

    private static long run(String text) {
        Probe p = new Probe().put(text);
        p.x.read(0);
        long before = bytes();
        for (int i = 0; i < CALLS / 8; i++) {
            p.x.read(0);
            p.x.write(0);
            p.x.read(1);
            p.x.same();
            p.x.swap();
            p.x.pick(1, 0);
            p.x.letter(0, 1, 0);
            p.x.fault();
        }
        return bytes() - before;
    }
}
