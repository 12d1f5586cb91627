/** Promises 24 to 27: the plans without interruptions. */
public final class DispatchTest {
    private static final int LOW = Integer.MIN_VALUE;
    private static final int HIGH = Integer.MAX_VALUE;
    private static final int NONE = OpenShop.NONE;

    public static void main(String[] args) {
        promise24DenseLength();
        promise25DenseStart();
        promise26AlternateLength();
        promise27AlternateStart();
        followBothChanges();
        Check.end("DispatchTest");
    }

    private static void promise24DenseLength() {
        Check.same("denseLength()", Shops.small().denseLength(), 6);
        Check.same("denseLength() without operations", new OpenShop().denseLength(), 0);
        Check.same("denseLength() of one operation", Shops.of(new int[][] {{99}}).denseLength(), 99);
        // The bound is 2, but job 2 finds both machines taken at 0 and then goes over both.
        Check.same("denseLength() beyond the bound",
                Shops.of(new int[][] {{0, 1}, {1, 0}, {1, 1}}).denseLength(), 3);
        // Machine 1 takes job 1 at 0, and job 0 waits for it from 1 to 3.
        Check.same("denseLength() with a waiting job",
                Shops.of(new int[][] {{1, 2}, {0, 3}}).denseLength(), 5);
    }

    private static void promise25DenseStart() {
        // At 0 machine 0 takes job 0 and machine 1 job 1; at 3 job 1 is not free for machine 0; at 4
        // machine 0 takes job 1 and machine 1 job 0.
        sameDense(Shops.small(), new int[][] {{0, 4}, {4, 0}});
        // Machines 0 and 1 change their jobs at 2, and machine 2 has to wait for job 0 up to 5.
        sameDense(Shops.of(new int[][] {{2, 3, 1}, {4, 2, 0}}),
                new int[][] {{0, 2, 5}, {2, 0, NONE}});
        // A job that has begun at this very time is not free for a machine behind.
        sameDense(Shops.of(new int[][] {{3, 3}, {0, 0}}), new int[][] {{0, 3}, {NONE, NONE}});
        // All that end at 2 are over before machine 0 looks for a job, and so it takes job 1.
        sameDense(Shops.of(new int[][] {{2, 2}, {2, 2}, {5, 0}}),
                new int[][] {{0, 2}, {2, 0}, {4, NONE}});
        OpenShop shop = Shops.of(new int[][] {{1, 1}, {1, 1}, {1, 1}});
        for (int wrong : new int[] {-1, 3, 5, LOW, HIGH}) {
            Check.noIndex("denseStart(" + wrong + ", 0)", () -> shop.denseStart(wrong, 0));
            Check.noIndex("denseStart(0, " + wrong + ")", () -> shop.denseStart(0, wrong));
        }
        Check.noIndex("denseStart(0, 2)", () -> shop.denseStart(0, 2));
    }

    private static void sameDense(OpenShop shop, int[][] due) {
        for (int job = 0; job < due.length; job++) {
            for (int machine = 0; machine < due[0].length; machine++) {
                Check.same("denseStart(" + job + ", " + machine + ")",
                        shop.denseStart(job, machine), due[job][machine]);
            }
        }
    }

    private static void promise26AlternateLength() {
        Check.same("alternateLength()", Shops.small().alternateLength(), 6);
        OpenShop empty = new OpenShop();
        empty.setSize(4, 2);
        Check.same("alternateLength() without operations", empty.alternateLength(), 0);
        Check.same("alternateLength() of one job",
                Shops.of(new int[][] {{99, 98}}).alternateLength(), 197);
        OpenShop shop = new OpenShop();
        for (int machines : new int[] {1, 3, 4, 5}) {
            shop.setSize(2, machines);
            Check.noState("alternateLength() with " + machines, () -> shop.alternateLength());
        }
        shop.setSize(2, 2);
        Check.same("alternateLength() with 2", shop.alternateLength(), 0);
    }

    private static void promise27AlternateStart() {
        // At 0 machine 0 takes job 1 (4 on the other, job 0 has 1 there) and machine 1 job 0; at 2
        // both take what is left.
        sameAlternate(Shops.small(), new int[][] {{2, 0}, {0, 2}});
        // Of several equal ones the least number; at 5 the longest ones have begun and count as 0.
        sameAlternate(Shops.of(new int[][] {{5, 5}, {5, 5}, {0, 9}, {3, 0}}),
                new int[][] {{0, 5}, {5, 0}, {NONE, 10}, {10, NONE}});
        // At 1 machine 1 takes job 1 and not job 2, whose operation on machine 0 has begun.
        sameAlternate(Shops.of(new int[][] {{0, 1}, {0, 1}, {1, 1}}),
                new int[][] {{NONE, 0}, {NONE, 1}, {0, 2}});
        OpenShop shop = Shops.of(new int[][] {{1, 1}, {1, 1}, {1, 1}});
        for (int wrong : new int[] {-1, 3, 5, LOW, HIGH}) {
            Check.noIndex("alternateStart(" + wrong + ", 0)", () -> shop.alternateStart(wrong, 0));
            Check.noIndex("alternateStart(0, " + wrong + ")", () -> shop.alternateStart(0, wrong));
        }
        Check.noIndex("alternateStart(0, 2)", () -> shop.alternateStart(0, 2));
        OpenShop three = new OpenShop();
        Check.noState("alternateStart(0, 0) with three", () -> three.alternateStart(0, 0));
        Check.noState("alternateStart(2, 2) with three", () -> three.alternateStart(2, 2));
        Check.noIndex("alternateStart(3, 0) with three", () -> three.alternateStart(3, 0));
        Check.noIndex("alternateStart(0, 3) with three", () -> three.alternateStart(0, 3));
        OpenShop one = new OpenShop();
        one.setSize(3, 1);
        Check.noState("alternateStart(0, 0) with one", () -> one.alternateStart(0, 0));
        Check.noIndex("alternateStart(0, 1) with one", () -> one.alternateStart(0, 1));
    }

    private static void sameAlternate(OpenShop shop, int[][] due) {
        for (int job = 0; job < due.length; job++) {
            for (int machine = 0; machine < 2; machine++) {
                Check.same("alternateStart(" + job + ", " + machine + ")",
                        shop.alternateStart(job, machine), due[job][machine]);
            }
        }
    }

    private static void followBothChanges() {
        OpenShop shop = Shops.of(new int[][] {{3, 0}, {4, 0}});
        Check.same("denseLength()", shop.denseLength(), 7);
        Check.same("alternateLength()", shop.alternateLength(), 7);
        shop.set(1, 0, 9);
        Check.same("denseLength() after set", shop.denseLength(), 12);
        Check.same("alternateLength() after set", shop.alternateLength(), 12);
        shop.swapJobs(0, 1);
        Check.same("denseStart(1, 0) after swapJobs", shop.denseStart(1, 0), 9);
        Check.same("alternateStart(1, 0) after swapJobs", shop.alternateStart(1, 0), 9);
        shop.set(0, 1, 1);
        shop.set(1, 1, 20);
        // The two rules one after the other: what one has made is nothing to the other.
        sameDense(shop, new int[][] {{0, 20}, {20, 0}});
        sameAlternate(shop, new int[][] {{3, 0}, {0, 3}});
        sameDense(shop, new int[][] {{0, 20}, {20, 0}});
        shop.setSize(2, 2);
        Check.same("denseLength() after setSize", shop.denseLength(), 0);
        Check.same("denseStart(0, 0) after setSize", shop.denseStart(0, 0), NONE);
        Check.same("alternateStart(0, 0) after setSize", shop.alternateStart(0, 0), NONE);
    }
}
