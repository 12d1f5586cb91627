/** Promises 16 to 23 and 31: the shortest plan with interruptions. */
public final class SlicedPlanTest {
    private static final int LOW = Integer.MIN_VALUE;
    private static final int HIGH = Integer.MAX_VALUE;

    // The small table's filled table and how it is taken apart, the chosen entries in brackets:
    //   [3] 1  2  0      0 [1] 2  0      0  0 [2] 0      0  0 [1] 0
    //    2 [4] 0  0     [2] 1  0  0     [1] 1  0  0      0 [1] 0  0
    //    1  0 [3] 2      1  0  0 [2]     1  0  0 [1]    [1] 0  0  0
    //    0  1  1 [4]     0  1 [1] 1      0 [1] 0  1      0  0  0 [1]
    //   from 0: 3       from 3: 1       from 4: 1       from 5: 1
    private static final int[] STARTS = {0, 3, 4, 5};
    private static final int[] LENGTHS = {3, 1, 1, 1};
    private static final int[][] MACHINES = {{0, 1}, {1, 0}, {-1, 0}, {-1, 1}};

    public static void main(String[] args) {
        promise16Slices();
        promise17SliceStart();
        promise18SliceLength();
        promise19MachineIn();
        promise20JobAt();
        promise21Done();
        promise22FinishOf();
        promise23Interruptions();
        promise31MeanFinish();
        followsEveryChange();
        staysWithARefusedCall();
        Check.end("SlicedPlanTest");
    }

    private static void promise16Slices() {
        Check.same("slices()", Shops.small().slices(), 4);
        Check.same("slices() without operations", new OpenShop().slices(), 0);
        Check.same("slices() of one operation", Shops.of(new int[][] {{99}}).slices(), 1);
        Check.same("slices() of a row", Shops.of(new int[][] {{10, 30, 50, 70, 90}}).slices(), 5);
        Check.same("slices() of apart jobs", Shops.of(new int[][] {{4, 0}, {0, 4}}).slices(), 1);
    }

    private static void promise17SliceStart() {
        OpenShop shop = Shops.small();
        for (int slice = 0; slice < STARTS.length; slice++) {
            Check.same("sliceStart(" + slice + ")", shop.sliceStart(slice), STARTS[slice]);
        }
        for (int wrong : new int[] {-1, 4, 5, LOW, HIGH}) {
            Check.noIndex("sliceStart(" + wrong + ")", () -> shop.sliceStart(wrong));
        }
        Check.noIndex("sliceStart(0) without slices", () -> new OpenShop().sliceStart(0));
    }

    private static void promise18SliceLength() {
        OpenShop shop = Shops.small();
        for (int slice = 0; slice < LENGTHS.length; slice++) {
            Check.same("sliceLength(" + slice + ")", shop.sliceLength(slice), LENGTHS[slice]);
        }
        for (int wrong : new int[] {-1, 4, 5, LOW, HIGH}) {
            Check.noIndex("sliceLength(" + wrong + ")", () -> shop.sliceLength(wrong));
        }
        Check.noIndex("sliceLength(0) without slices", () -> new OpenShop().sliceLength(0));
    }

    private static void promise19MachineIn() {
        OpenShop shop = Shops.small();
        for (int slice = 0; slice < MACHINES.length; slice++) {
            for (int job = 0; job < 2; job++) {
                Check.same("machineIn(" + slice + ", " + job + ")",
                        shop.machineIn(slice, job), MACHINES[slice][job]);
            }
        }
        for (int wrong : new int[] {-1, 4, LOW, HIGH}) {
            Check.noIndex("machineIn(" + wrong + ", 0)", () -> shop.machineIn(wrong, 0));
            Check.noIndex("machineIn(0, " + wrong + ")", () -> shop.machineIn(0, wrong));
        }
        Check.noIndex("machineIn(0, 2)", () -> shop.machineIn(0, 2));
        Check.noIndex("machineIn(0, 0) without slices", () -> new OpenShop().machineIn(0, 0));
    }

    private static void promise20JobAt() {
        OpenShop shop = Shops.small();
        int[] onFirst = {0, 0, 0, 1, 1, -1};
        int[] onSecond = {1, 1, 1, 0, -1, 1};
        for (int time = 0; time < 6; time++) {
            Check.same("jobAt(" + time + ", 0)", shop.jobAt(time, 0), onFirst[time]);
            Check.same("jobAt(" + time + ", 1)", shop.jobAt(time, 1), onSecond[time]);
        }
        for (int outside : new int[] {-1, 6, 7, LOW, HIGH}) {
            Check.same("jobAt(" + outside + ", 0)", shop.jobAt(outside, 0), OpenShop.NONE);
            Check.same("jobAt(" + outside + ", 1)", shop.jobAt(outside, 1), OpenShop.NONE);
        }
        for (int wrong : new int[] {-1, 2, 4, LOW, HIGH}) {
            Check.noIndex("jobAt(0, " + wrong + ")", () -> shop.jobAt(0, wrong));
            Check.noIndex("jobAt(-1, " + wrong + ")", () -> shop.jobAt(-1, wrong));
        }
        Check.same("jobAt(0, 0) without slices", new OpenShop().jobAt(0, 0), OpenShop.NONE);
    }

    private static void promise21Done() {
        OpenShop shop = Shops.small();
        int[][] due = {
            {0, 1, 2, 3, 3, 3, 3, 3},
            {0, 0, 0, 0, 1, 1, 1, 1},
            {0, 0, 0, 0, 1, 2, 2, 2},
            {0, 1, 2, 3, 3, 3, 4, 4},
        };
        for (int pair = 0; pair < 4; pair++) {
            int job = pair / 2;
            int machine = pair % 2;
            String of = "done(" + job + ", " + machine + ", ";
            for (int time = 0; time < 8; time++) {
                Check.same(of + time + ")", shop.done(job, machine, time), due[pair][time]);
            }
            Check.same(of + "-1)", shop.done(job, machine, -1), 0);
            Check.same(of + LOW + ")", shop.done(job, machine, LOW), 0);
            Check.same(of + HIGH + ")", shop.done(job, machine, HIGH), due[pair][7]);
        }
        for (int wrong : new int[] {-1, 2, 4, LOW, HIGH}) {
            Check.noIndex("done(" + wrong + ", 0, 1)", () -> shop.done(wrong, 0, 1));
            Check.noIndex("done(0, " + wrong + ", 1)", () -> shop.done(0, wrong, 1));
        }
        Check.same("done(0, 0, 9) without slices", new OpenShop().done(0, 0, 9), 0);
    }

    private static void promise22FinishOf() {
        OpenShop shop = Shops.small();
        Check.same("finishOf(0)", shop.finishOf(0), 4);
        Check.same("finishOf(1)", shop.finishOf(1), 6);
        for (int wrong : new int[] {-1, 2, 4, LOW, HIGH}) {
            Check.noIndex("finishOf(" + wrong + ")", () -> shop.finishOf(wrong));
        }
        OpenShop idle = Shops.of(new int[][] {{0, 0}, {5, 1}});
        Check.same("finishOf a job without operations", idle.finishOf(0), 0);
        Check.same("finishOf the other job", idle.finishOf(1), 6);
        Check.same("finishOf(2) without slices", new OpenShop().finishOf(2), 0);
    }

    private static void promise23Interruptions() {
        // Job 1 is on machine 1, then on machine 0, and at the end on machine 1 again.
        Check.same("interruptions()", Shops.small().interruptions(), 1);
        Check.same("interruptions() without slices", new OpenShop().interruptions(), 0);
        Check.same("interruptions() of a row",
                Shops.of(new int[][] {{10, 30, 50, 70, 90}}).interruptions(), 0);
        // Job 1 is on machine 1, then on none, and on machine 1 again:
        //   [1] 1  1  0      0 [1] 1  0      0  0 [1] 0
        //    0 [2] 0  1      0  1  0 [1]     0 [1] 0  0
        //    2  0 [1] 0     [2] 0  0  0     [1] 0  0  0
        //    0  0  1 [2]     0  0 [1] 1      0  0  0 [1]
        OpenShop pause = Shops.of(new int[][] {{1, 1}, {0, 2}});
        Check.same("machineIn(1, 1) in a pause", pause.machineIn(1, 1), OpenShop.NONE);
        Check.same("interruptions() with a pause", pause.interruptions(), 1);
        OpenShop shop = new OpenShop();
        shop.setSize(5, 5);
        int[][] steps = {{7, 13}, {42, 31}, {99, 99}, {0, 1}, {88, 17}};
        for (int job = 0; job < 5; job++) {
            shop.setJob(job, steps[job][0], steps[job][1]);
        }
        Check.same("interruptions() of the large table", shop.interruptions(), 6);
    }

    private static void promise31MeanFinish() {
        Check.sameDouble("meanFinish()", Shops.small().meanFinish(), 5.0);
        Check.sameDouble("meanFinish() without slices", new OpenShop().meanFinish(), 0.0);
        Check.sameDouble("meanFinish() of an idle job",
                Shops.of(new int[][] {{0, 0}, {5, 2}}).meanFinish(), 3.5);
        Check.sameDouble("meanFinish() of a third",
                Shops.of(new int[][] {{1}, {1}, {2}}).meanFinish(), 7.0 / 3);
        Check.sameDouble("meanFinish() of one job", Shops.of(new int[][] {{9, 8}}).meanFinish(), 17.0);
    }

    private static void followsEveryChange() {
        OpenShop shop = Shops.of(new int[][] {{4}});
        Check.same("sliceLength(0)", shop.sliceLength(0), 4);
        shop.set(0, 0, 6);
        Check.same("sliceLength(0) after set", shop.sliceLength(0), 6);
        shop.setJob(0, 9, 0);
        Check.same("sliceLength(0) after setJob", shop.sliceLength(0), 9);
        shop.setSize(2, 1);
        Check.same("slices() after setSize", shop.slices(), 0);
        shop.set(1, 0, 5);
        Check.same("jobAt(0, 0)", shop.jobAt(0, 0), 1);
        shop.swapJobs(0, 1);
        Check.same("jobAt(0, 0) after swapJobs", shop.jobAt(0, 0), 0);
        shop.set(1, 0, 3);
        Check.same("finishOf(1)", shop.finishOf(1), 8);
        shop.transpose();
        Check.same("machineIn(1, 0) after transpose", shop.machineIn(1, 0), 1);
        Check.same("finishOf(0) after transpose", shop.finishOf(0), 8);
        Check.noIndex("finishOf(1) after transpose", () -> shop.finishOf(1));
        shop.setSize(1, 1);
        shop.set(0, 0, 2);
        Check.same("jobAt(0, 0) of a smaller table", shop.jobAt(0, 0), 0);
        Check.same("interruptions() of a smaller table", shop.interruptions(), 0);
        Check.sameDouble("meanFinish() of a smaller table", shop.meanFinish(), 2.0);
    }

    private static void staysWithARefusedCall() {
        OpenShop shop = Shops.small();
        Check.noRange("set(0, 0, 100)", () -> shop.set(0, 0, 100));
        Check.noRange("setSize(6, 1)", () -> shop.setSize(6, 1));
        Check.noIndex("machineIn(9, 0)", () -> shop.machineIn(9, 0));
        for (int slice = 0; slice < STARTS.length; slice++) {
            Check.same("sliceStart(" + slice + ")", shop.sliceStart(slice), STARTS[slice]);
        }
        Check.same("slices()", shop.slices(), STARTS.length);
    }
}
