import java.lang.management.ManagementFactory;

/** The dearest calls, up to 512 on one object: they end soon, and make no objects. */
public final class RoomTest extends Nets {
    private static final int CALLS = 512, BUILDING = 69;
    /** What asking and the loading of a class may take; an object a call would be far beyond it. */
    private static final long ASKING = 4000;

    public static void main(String[] args) {
        // The first question loads classes, which is not the net's doing.
        made();
        for (int way = 0; way < 5; way++) {
            fullNet(way);
        }
        everyCallMakesNothing();
        Check.end("RoomTest");
    }

    private static StableNet builtFull() {
        StableNet x = full(12);
        x.build();
        return x;
    }

    private static long made() {
        return ((com.sun.management.ThreadMXBean) ManagementFactory.getThreadMXBean()).getCurrentThreadAllocatedBytes();
    }

    private static void fullNet(int way) {
        StableNet x = builtFull();
        long before = made();
        for (int c = 0; c < (CALLS - BUILDING) / 3; c++) {
            x.fault(c % 12, 5 + c % 11, c);
            x.settle(way, 2000);
            x.run(way, 300);
        }
        long bytes = made() - before;
        Check.holds("way " + way + " makes no objects", bytes < ASKING);
        Check.holds("way " + way + " acted", x.count(2) > 0);
    }

    private static void everyCallMakesNothing() {
        StableNet[] nets = new StableNet[20];
        for (int r = 0; r < nets.length; r++) {
            nets[r] = builtFull();
        }
        int sum = 0;
        long before = made();
        for (StableNet x : nets) {
            for (int c = 0; c < (CALLS - BUILDING) / 26; c++) {
                sum += everyCall(x, c);
            }
        }
        long bytes = made() - before;
        Check.holds("no call makes objects, sum " + sum, bytes < ASKING);
    }

    private static int everyCall(StableNet x, int c) {
        int sum = x.keep() + x.fault(3, c % 20, c) + x.value(c % 12, c);
        sum += x.run(4, 9) + x.step(c) + x.told(2, 3) + x.seen() + x.neighbour(1, c) + x.child(0, 3);
        sum += x.enabled(4) + x.rights() + x.holder(2) + x.next(0, 1) + x.dice(c) + x.rest();
        sum += x.distance(4) + x.wave() + x.entries(2) + x.count(c % 10) + (int) x.digest();
        return sum + x.back() + x.open(12) + x.link(0, c % 12, true) + x.build() + x.back();
    }
}
