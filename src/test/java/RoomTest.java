import java.lang.management.ManagementFactory;

/** All calls of a run live in one room: an object is made once, and its calls make nothing more. */
public final class RoomTest {
    private static final long MOST_MADE = 40_000, MOST_BY_CALLS = 20_000;
    private static long sum = 0;

    public static void main(String[] args) {
        com.sun.management.ThreadMXBean threads = (com.sun.management.ThreadMXBean) ManagementFactory.getThreadMXBean();
        work(new WrackDeeds());
        long start = threads.getCurrentThreadAllocatedBytes();
        WrackDeeds x = new WrackDeeds();
        long made = threads.getCurrentThreadAllocatedBytes() - start;
        work(x);
        long byCalls = threads.getCurrentThreadAllocatedBytes() - start - made;
        System.out.println("an object takes " + made + " bytes, its calls " + byCalls + " more (" + sum + ")");
        if (made > MOST_MADE || byCalls > MOST_BY_CALLS) System.exit(1);
    }

    private static void work(WrackDeeds x) {
        String strands = "3wab;4kbc;5dcd;2wda;1kab;3wbb;4wcc;2kdd", route = "abcdefgh";
        for (int i = 0; i < strands.length(); i++) sum += x.type(0, strands.charAt(i));
        for (int h = 0; h < 20; h++) sum += x.type(1, '3' + h % 4);
        for (int i = 0; i < 8; i++) sum += x.type(2, route.charAt(i));
        for (int k = 0; k < 45; k++) {
            sum += x.event(k % 3, k % 20, k % 8, k % 10);
            sum += x.seen(k % 20, k % 8, 1);
            sum += x.sheet(k % 4, k % 3, k % 61);
            sum += x.write(k % 8, k % 4) + x.read(k % 4) + x.copy(0, 0, 1, 0, 1);
            sum += x.digest();
            sum += x.back() + x.forget();
        }
    }
}
