import java.lang.management.ManagementFactory;

/** A run has one room that is never swept: the calls of an object's life may make next to nothing. */
public final class RoomTest {
    private static final long MOST_BYTES = 100_000;

    public static void main(String[] args) {
        life();
        long before = allocated();
        life();
        long made = allocated() - before;
        Desk.due("few enough bytes made (" + made + ")", made <= MOST_BYTES, true);
        Desk.end();
    }

    private static long allocated() {
        java.lang.management.ThreadMXBean bean = ManagementFactory.getThreadMXBean();
        if (bean instanceof com.sun.management.ThreadMXBean) {
            return ((com.sun.management.ThreadMXBean) bean).getThreadAllocatedBytes(Thread.currentThread().getId());
        }
        return 0;
    }

    /** Long lists of short elements for four representations are the dearest texts. */
    private static void life() {
        OriginDesk desk = new OriginDesk(Desk.NOW);
        for (int n = 0; n < 4; n++) {
            desk.add(4, 1, 100000, 9999, false, Desk.CHANGE);
        }
        fill(desk, Desk.ACCEPT, Desk.pack("*/*,a/b,"));
        fill(desk, Desk.LANGUAGES, Desk.pack("*,a,b,c,"));
        fill(desk, Desk.MATCH, Desk.pack("\"v9999\","));
        fill(desk, Desk.NONE_MATCH, Desk.pack("\"\",\"a\","));
        desk.feed(Desk.RANGE, Desk.pack("bytes=0-"));
        desk.feed(Desk.RANGE, Desk.pack("1,3-4,6-"));
        desk.feed(Desk.RANGE, Desk.pack("7,9-10"));
        desk.respond();
        int end = (int) desk.length() - 1;
        for (int call = 0; call < 220; call++) {
            Desk.due("respond", desk.respond(), 206);
            Desk.due("the body's last byte", desk.body(end), 10);
        }
    }

    private static void fill(OriginDesk desk, int field, long characters) {
        for (int i = 0; i < 12; i++) {
            desk.feed(field, characters);
        }
    }
}
