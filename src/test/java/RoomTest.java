import java.lang.management.ManagementFactory;

/** All calls of a run live in one room: rows are made with the object, and calls make nothing. */
public final class RoomTest {
    private static final long MOST_FOR_ONE = 200_000;
    private static final long MOST_FOR_CALLS = 20_000;

    public static void main(String[] args) {
        use(new PoleSets());
        long start = taken();
        PoleSets x = new PoleSets();
        long made = taken() - start;
        start = taken();
        int calls = use(x);
        long used = taken() - start;
        System.out.println("an object takes " + made + " bytes, " + calls + " calls take " + used);
        if (made > MOST_FOR_ONE || used > MOST_FOR_CALLS) {
            System.out.println("that is too much");
            System.exit(1);
        }
    }

    private static long taken() {
        java.lang.management.ThreadMXBean bean = ManagementFactory.getThreadMXBean();
        return ((com.sun.management.ThreadMXBean) bean).getThreadAllocatedBytes(Thread.currentThread().getId());
    }

    private static int use(PoleSets x) {
        x.line(10, 20, 1000);
        x.cap(20);
        x.link(10, 2);
        for (int i = 0; i < 60; i++) {
            x.crack(0, i * 47 % 360, i * 13 % 91, i);
        }
        int calls = 63;
        for (int round = 0; round < 20; round++) {
            x.cap(1 + round);
            x.axis(true, 0);
            x.axis(false, 0);
            x.nextLine(0);
            x.peak(10, 0);
            x.settled(30, 0);
            x.bridges(0);
            x.linkFor(7);
            x.hangs(3, 40);
            x.without(5);
            x.set(0, 9);
            x.safest(0);
            x.steepest();
            x.risk(3);
            x.unfold(0, 1, 20, 0);
            x.wedge(0, 1, 0);
            x.spacing(0, 0, 2);
            x.meets(0, 0, 5, 5, 1000);
            x.block(0, 1, 2, 10, 10, 10);
            x.digest();
            x.drop(7);
            x.crack(0, 3, 4, 5);
            calls += 22;
        }
        return calls;
    }
}
