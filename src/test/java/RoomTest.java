import java.lang.management.ManagementFactory;

/** All calls of one run live in one room: calls make nothing, and an object is small. */
public final class RoomTest {
    private static final com.sun.management.ThreadMXBean BEAN =
        (com.sun.management.ThreadMXBean) ManagementFactory.getThreadMXBean();

    public static void main(String[] args) {
        calls();
        objects();
        Check.finish();
    }

    private static long made() {
        return BEAN.getThreadAllocatedBytes(Thread.currentThread().getId());
    }

    /** Ten objects, each asked 512 times at most. */
    private static void calls() {
        InputOutput[] objects = new InputOutput[10];
        for (int i = 0; i < objects.length; i++) {
            objects[i] = furnished();
        }
        made();
        long before = made();
        for (InputOutput x : objects) {
            for (int i = 0; i < 150; i++) {
                x.run(BUSIEST);
                x.order(i);
                x.handle(0, 0);
            }
        }
        long bytes = made() - before;
        Check.holds("1500 runs make nothing, but " + bytes, bytes < 4096);
    }

    private static final int BUSIEST = 8;

    /** Its last NODE opens 20 HANDLES, reads 20 LISTS of 40 bytes, and FAILS. */
    private static InputOutput furnished() {
        InputOutput x = new InputOutput();
        for (int i = 0; i < 40; i++) {
            x.lay(0, i);
        }
        int open = x.node(3, 0, 0, 0);
        int length = x.node(9, x.node(7, open, 0, 0), 0, 0);
        int twenty = x.node(23, x.node(0, 20, 0, 0), length, 0);
        int many = x.node(23, x.node(0, 1000, 0, 0), open, 0);
        int caught = x.node(26, many, open, 32);
        Check.due("the busiest NODE", x.node(19, twenty, caught, 0), BUSIEST);
        Check.due("its run", x.run(BUSIEST), Scene.FAILED);
        return x;
    }

    /** Even if every call were a new object, 512 of them are far below the room's 7.3 million elements. */
    private static void objects() {
        InputOutput[] kept = new InputOutput[512];
        long before = made();
        for (int i = 0; i < kept.length; i++) {
            kept[i] = new InputOutput();
        }
        long each = (made() - before) / kept.length;
        Check.holds("an object takes " + each + " bytes", each < 20_000);
        Check.due("the last one stands", kept[511].told(0), 0);
    }
}
