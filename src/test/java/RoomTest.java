import java.lang.management.ManagementFactory;

/** The dearest calls make no objects: all calls of a run live in one room that is never cleared. */
public final class RoomTest {
    private static final int LIMIT_NEW = 8_000, LIMIT_CALLS = 2_000;

    public static void main(String[] args) {
        Check check = new Check();
        com.sun.management.ThreadMXBean bean = (com.sun.management.ThreadMXBean) ManagementFactory.getThreadMXBean();
        // The first round of calls loads classes; it does not count.
        work(build());
        long start = bean.getCurrentThreadAllocatedBytes();
        RouteWatch x = build();
        long built = bean.getCurrentThreadAllocatedBytes();
        int sum = work(x);
        long worked = bean.getCurrentThreadAllocatedBytes();
        System.out.println("a new object " + (built - start) + " bytes, all calls " + (worked - built) + " bytes");
        check.holds("a new object is small", built - start < LIMIT_NEW);
        check.holds("calls make no objects", worked - built < LIMIT_CALLS);
        check.holds("the calls answered", sum != 0);
        check.end("RoomTest");
    }

    /** Ten houses that are all tied and all leak, with as many sayings and rights as may be. */
    private static RouteWatch build() {
        RouteWatch x = new RouteWatch();
        for (int h = 0; h < 10; h++) {
            x.house();
            for (int t = 0; t < h; t++) {
                x.tie(t, h, (t + h) % 3 == 0);
            }
            x.set(0, h, true);
        }
        for (int length = 0; length <= 6; length++) {
            x.right(length, 0, length);
            x.say(length, 0, 9 - length);
            x.say(length, 0, 8 - length);
        }
        return x;
    }

    private static int work(RouteWatch x) {
        int sum = 0;
        for (int i = 0; i < 100; i++) {
            sum += x.cure(0) + x.watchers() + x.halves(0) + x.misled(i % 64) + x.goes(i % 10, 0);
            sum += x.way(i % 7, 0, 9, 1) + x.broken(i % 7, 0, 9) + x.rounds(i % 7, 0) + x.saying(i % 14, 5);
            sum += x.right(6, 9, i % 10) + x.unsay(0) + x.say(i % 7, 0, i % 10) + x.count(4);
        }
        return sum;
    }
}
