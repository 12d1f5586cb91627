import java.lang.management.ManagementFactory;

/** All calls of a run live in one room: what an object needs, it makes when it is made. */
public final class RoomTest {
    private static final int ROUNDS = 400;
    // The measuring itself makes a little; one array a round would be far more than this.
    private static final long LITTLE = 4096;

    private static final com.sun.management.ThreadMXBean THREADS =
            (com.sun.management.ThreadMXBean) ManagementFactory.getThreadMXBean();

    public static void main(String[] args) {
        OpenShop shop = new OpenShop();
        long sum = askAll(shop, 0);
        long before = made();
        for (int round = 0; round < ROUNDS; round++) {
            sum += askAll(shop, round);
        }
        long more = made() - before;
        Check.holds("calls that make nothing, not " + more + " bytes", more < LITTLE);
        Check.holds("answers", sum != 0);
        before = made();
        new OpenShop();
        long one = made() - before;
        Check.holds("a small object, not of " + one + " bytes", one < 16_384);
        Check.end("RoomTest");
    }

    private static long made() {
        return THREADS.getCurrentThreadAllocatedBytes();
    }

    private static long askAll(OpenShop shop, int round) {
        long sum = shop.setSize(5, 2 + round % 4);
        for (int job = 0; job < 5; job++) {
            sum += shop.setJob(job, (17 * job + round) % 100, (29 * job + 3 * round) % 100);
        }
        sum += shop.set(0, 0, round % 100) + shop.swapJobs(0, 4) + shop.bound() + shop.total();
        sum += shop.boundByFlow() + shop.filled(0, 0) + shop.slices() + shop.sliceStart(0);
        sum += shop.sliceLength(0) + shop.machineIn(0, 0) + shop.jobAt(3, 0) + shop.done(0, 0, 9);
        sum += shop.finishOf(0) + shop.interruptions() + shop.denseLength() + shop.denseStart(0, 0);
        if (shop.machines() == 2) {
            sum += shop.alternateLength() + shop.alternateStart(0, 0);
        }
        sum += shop.rounded(0, 0, 7) + shop.roundedTotal(3) + shop.roundedUp(9);
        return sum + (long) shop.meanFinish() + shop.transpose();
    }
}
