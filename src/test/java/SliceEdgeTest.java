/**
 * The boundary cases in "The shortest plan with interruptions" and in promises 16 to 23 and 31, a
 * test for each. The tables are taken apart by hand in the comments: the columns of all rows.
 */
public final class SliceEdgeTest {
    private static final int LOW = Integer.MIN_VALUE;
    private static final int HIGH = Integer.MAX_VALUE;
    private static final int NONE = OpenShop.NONE;

    public static void main(String[] args) {
        noSliceWithoutEntries();
        asLongAsThereAreEntries();
        theFirstColumnStillPossibleForJobs();
        theFirstColumnStillPossibleForAllRows();
        theLengthIsTheLeastEntry();
        fromTheTime0ToTheBound();
        onNoneFromTheColumnM();
        jobAtBeginsAtTheTimeOrBefore();
        jobAtEndsBehindTheTime();
        jobAtOfAnyNumber();
        jobAtOfNoJobOnTheMachine();
        doneUpToATime();
        doneOfAnyNumber();
        finishOfTheLastSlice();
        finishOfNoSlice();
        noInterruptionInTheNextSlice();
        noInterruptionWithoutALaterSlice();
        interruptedByNone();
        interruptedByAnotherMachine();
        interruptedForSeveralSlices();
        interruptedSeveralTimes();
        meanFinishAsADouble();
        Check.end("SliceEdgeTest");
    }

    /** Three slices of length 1: 0 1 2 3, then 1 3 0 2, then 2 1 0 3. */
    private static OpenShop pause() {
        return Shops.of(new int[][] {{1, 1}, {0, 2}});
    }

    private static void sameMachines(String of, OpenShop shop, int job, int[] due) {
        Check.same(of + ": slices()", shop.slices(), due.length);
        for (int slice = 0; slice < due.length; slice++) {
            Check.same(of + ": machineIn(" + slice + ", " + job + ")",
                    shop.machineIn(slice, job), due[slice]);
        }
    }

    /** "as long as it has entries above 0": an empty table has none. */
    private static void noSliceWithoutEntries() {
        for (int jobs = 1; jobs <= 5; jobs++) {
            for (int machines = 1; machines <= 5; machines++) {
                OpenShop shop = new OpenShop();
                shop.setSize(jobs, machines);
                Check.same("slices() without entries", shop.slices(), 0);
                Check.noIndex("sliceStart(0) without entries", () -> shop.sliceStart(0));
                shop.set(jobs - 1, machines - 1, 1);
                Check.same("slices() with one operation", shop.slices(), 1);
                Check.same("sliceStart(0) with one operation", shop.sliceStart(0), 0);
                Check.same("sliceLength(0) with one operation", shop.sliceLength(0), 1);
                Check.same("machineIn with one operation", shop.machineIn(0, jobs - 1), machines - 1);
                Check.noIndex("sliceStart(1) with one operation", () -> shop.sliceStart(1));
            }
        }
    }

    /** "as long as it has entries above 0": a full table, and one with many slices, not by hand. */
    private static void asLongAsThereAreEntries() {
        OpenShop full = Shops.fullest(5, 5);
        Check.same("slices() of a full table", full.slices(), 5);
        Check.same("sliceStart(4) of a full table", full.sliceStart(4), 396);
        Check.same("sliceLength(4) of a full table", full.sliceLength(4), 99);
        Check.noIndex("sliceStart(5) of a full table", () -> full.sliceStart(5));
        OpenShop many = Shops.of(new int[][] {
            {85, 3, 3, 67, 88}, {56, 40, 24, 16, 84}, {22, 37, 72, 58, 98}, {83, 14, 22, 26, 15},
            {50, 24, 37, 61, 22},
        });
        Check.same("slices() of many", many.slices(), 38);
        Check.same("the end of many", many.sliceStart(37) + many.sliceLength(37), many.bound());
        Check.noIndex("sliceLength(38) of many", () -> many.sliceLength(38));
    }

    /** "the first column with which this is still possible for all rows together" */
    private static void theFirstColumnStillPossibleForJobs() {
        //  [1] 0  1  0  0      0  0 [1] 0  0   Row 1 has its first entry in column 1, but then row 2
        //   0  1  0 [1] 0      0 [1] 0  0  0   would have none.
        //   1 [1] 0  0  0     [1] 0  0  0  0
        //   0  0 [1] 0  1      0  0  0  0 [1]
        //   0  0  0  1 [1]     0  0  0 [1] 0
        OpenShop shop = Shops.of(new int[][] {{1, 0}, {0, 1}, {1, 1}});
        sameMachines("job 0", shop, 0, new int[] {0, NONE});
        sameMachines("job 1", shop, 1, new int[] {NONE, 1});
        sameMachines("job 2", shop, 2, new int[] {1, 0});
        // With 2 for job 0 row 2 is not in need of column 1 any more than row 1: bound 3,
        //  [2] 0  1  0  0   row 1 takes column 1, and row 2 its third.
        //   0 [1] 0  2  0
        //   1  1  0  0 [1]
        //   0  0 [2] 0  1
        //   0  1  0 [1] 1
        OpenShop loose = Shops.of(new int[][] {{2, 0}, {0, 1}, {1, 1}});
        Check.same("machineIn(0, 0) when loose", loose.machineIn(0, 0), 0);
        Check.same("machineIn(0, 1) when loose", loose.machineIn(0, 1), 1);
        Check.same("machineIn(0, 2) when loose", loose.machineIn(0, 2), NONE);
    }

    /** "... for all rows together": the rows of the machines count as well. */
    private static void theFirstColumnStillPossibleForAllRows() {
        //   0 [1] 1  0  0      0  0 [1] 0  0   With row 1 in column 0, row 2 would need column 4, row 3
        //   1  0 [1] 0  0     [1] 0  0  0  0   column 3, and row 4 would have none.
        //  [1] 0  0  0  1      0  0  0  0 [1]
        //   0  1  0 [1] 0      0 [1] 0  0  0
        //   0  0  0  1 [1]     0  0  0 [1] 0
        OpenShop shop = Shops.of(new int[][] {{0, 1, 1}, {1, 0, 1}});
        sameMachines("job 0", shop, 0, new int[] {1, 2});
        sameMachines("job 1", shop, 1, new int[] {2, 0});
    }

    /** "The length of the slice is the least of these entries" */
    private static void theLengthIsTheLeastEntry() {
        // The least entry of the first slice is job 1's.
        OpenShop byJob = Shops.of(new int[][] {{9, 0}, {0, 4}});
        Check.same("sliceLength(0) by a job", byJob.sliceLength(0), 4);
        Check.same("sliceLength(1) by a job", byJob.sliceLength(1), 5);
        // Both jobs have 2 in the first slice, but machine 2's row has 1:
        //   0 [2] 1  0  0
        //  [2] 0  1  0  0
        //   1  0  0  0 [2]
        //   0  1  0 [2] 0
        //   0  0 [1] 1  1
        OpenShop byMachine = Shops.of(new int[][] {{0, 2, 1}, {2, 0, 1}});
        Check.same("machineIn(0, 0)", byMachine.machineIn(0, 0), 1);
        Check.same("machineIn(0, 1)", byMachine.machineIn(0, 1), 0);
        Check.same("sliceLength(0) by a machine", byMachine.sliceLength(0), 1);
        Check.same("sliceLength(0) of 99", Shops.of(new int[][] {{99}}).sliceLength(0), 99);
    }

    /** "the first one from the time 0 on; the last one ends at the bound"; "Returns 1 or more." */
    private static void fromTheTime0ToTheBound() {
        for (int jobs = 1; jobs <= 5; jobs++) {
            for (int machines = 1; machines <= 5; machines++) {
                OpenShop shop = Shops.patterned(jobs, machines);
                int end = 0;
                for (int slice = 0; slice < shop.slices(); slice++) {
                    Check.same("sliceStart(" + slice + ")", shop.sliceStart(slice), end);
                    Check.holds("1 or more", shop.sliceLength(slice) >= 1);
                    end += shop.sliceLength(slice);
                }
                Check.same("the end of the last slice", end, shop.bound());
            }
        }
    }

    /** "on none if its column is not below M" */
    private static void onNoneFromTheColumnM() {
        // Job 0 is in column 0, 1 and 2, with M being 2.
        sameMachines("job 0 up to column M", pause(), 0, new int[] {0, 1, NONE});
        // Job 1 is in column 1, 3 and 1.
        sameMachines("job 1 beyond column M", pause(), 1, new int[] {1, NONE, 1});
        // The last machine of five is a machine, and the next column is not: job 0 waits in it.
        OpenShop wide = Shops.of(new int[][] {{0, 0, 0, 0, 4}, {0, 0, 0, 0, 5}});
        sameMachines("the job 0 of five machines", wide, 0, new int[] {4, NONE});
        sameMachines("the job 1 of five machines", wide, 1, new int[] {NONE, 4});
    }

    /** "in the slice that begins at the time or before" */
    private static void jobAtBeginsAtTheTimeOrBefore() {
        OpenShop shop = Shops.of(new int[][] {{4}, {5}});
        Check.same("jobAt(-1, 0), before the first slice", shop.jobAt(-1, 0), NONE);
        Check.same("jobAt(0, 0), the first slice's begin", shop.jobAt(0, 0), 0);
        Check.same("jobAt(1, 0), behind its begin", shop.jobAt(1, 0), 0);
        Check.same("jobAt(3, 0), before the second slice", shop.jobAt(3, 0), 0);
        Check.same("jobAt(4, 0), the second slice's begin", shop.jobAt(4, 0), 1);
        Check.same("jobAt(5, 0), behind its begin", shop.jobAt(5, 0), 1);
    }

    /** "and ends behind it; NONE if there is no such slice" */
    private static void jobAtEndsBehindTheTime() {
        OpenShop shop = Shops.of(new int[][] {{4}, {5}});
        Check.same("jobAt(8, 0), before the bound", shop.jobAt(8, 0), 1);
        Check.same("jobAt(9, 0), the bound", shop.jobAt(9, 0), NONE);
        Check.same("jobAt(10, 0), behind the bound", shop.jobAt(10, 0), NONE);
        OpenShop empty = new OpenShop();
        Check.same("jobAt(0, 2) without slices", empty.jobAt(0, 2), NONE);
        Check.noIndex("jobAt(0, 3) without slices", () -> empty.jobAt(0, 3));
    }

    /** "time: any number" */
    private static void jobAtOfAnyNumber() {
        for (int time : new int[] {LOW, LOW + 1, -2, HIGH - 1, HIGH}) {
            Check.same("jobAt(" + time + ", 0)", Shops.fullest(1, 1).jobAt(time, 0), NONE);
            Check.same("jobAt(" + time + ", 4)", Shops.fullest(5, 5).jobAt(time, 4), NONE);
            Check.same("jobAt(" + time + ", 0) without slices", new OpenShop().jobAt(time, 0), NONE);
        }
    }

    /** "or no job on the machine in it" */
    private static void jobAtOfNoJobOnTheMachine() {
        OpenShop shop = Shops.of(new int[][] {{2, 5}, {1, 0}, {0, 0}});
        // Job 0 is on machine 0 up to 2 and then on machine 1 up to 7, job 1 on machine 0 from 2 to 3.
        Check.same("jobAt(1, 0)", shop.jobAt(1, 0), 0);
        Check.same("jobAt(1, 1), a machine without a job", shop.jobAt(1, 1), NONE);
        Check.same("jobAt(2, 0)", shop.jobAt(2, 0), 1);
        Check.same("jobAt(2, 1)", shop.jobAt(2, 1), 0);
        Check.same("jobAt(3, 0), a machine without a job", shop.jobAt(3, 0), NONE);
        Check.same("jobAt(6, 1)", shop.jobAt(6, 1), 0);
    }

    /** "the sum of what there is of slices ... from the time 0 up to time" */
    private static void doneUpToATime() {
        // Job 1 is on machine 1 from 0 to 1 and from 2 to 3, and on no machine between.
        int[] due = {0, 1, 1, 2, 2};
        for (int time = 0; time < due.length; time++) {
            Check.same("done(1, 1, " + time + ")", pause().done(1, 1, time), due[time]);
            Check.same("done(1, 0, " + time + ")", pause().done(1, 0, time), 0);
        }
        // A slice from 4 to 9: not begun, just begun, a part of it, all but 1, all, and no more.
        OpenShop shop = Shops.of(new int[][] {{4}, {5}});
        int[] times = {3, 4, 5, 8, 9, 10};
        int[] parts = {0, 0, 1, 4, 5, 5};
        for (int place = 0; place < times.length; place++) {
            Check.same("done(1, 0, " + times[place] + ")", shop.done(1, 0, times[place]),
                    parts[place]);
        }
    }

    /** "time: any number": none is done before 0, and all from the bound on. */
    private static void doneOfAnyNumber() {
        OpenShop shop = Shops.fullest(5, 5);
        for (int job = 0; job < 5; job++) {
            for (int time : new int[] {LOW, LOW + 1, LOW + 400, -1, 0}) {
                Check.same("done(" + job + ", 4, " + time + ")", shop.done(job, 4, time), 0);
            }
            for (int time : new int[] {495, 496, HIGH - 1, HIGH}) {
                Check.same("done(" + job + ", 4, " + time + ")", shop.done(job, 4, time), 99);
            }
        }
        Check.same("done(0, 0, HIGH) without slices", new OpenShop().done(0, 0, HIGH), 0);
    }

    /** "the end of the last slice in which it is on a machine" */
    private static void finishOfTheLastSlice() {
        Check.same("finishOf(0), out of the last slice", pause().finishOf(0), 2);
        Check.same("finishOf(1), in the last slice", pause().finishOf(1), 3);
        Check.same("finishOf(0) of the only slice", Shops.of(new int[][] {{99}}).finishOf(0), 99);
        Check.same("finishOf(4) of a full table", Shops.fullest(5, 5).finishOf(4), 495);
    }

    /** "0 if there is none" */
    private static void finishOfNoSlice() {
        OpenShop shop = Shops.of(new int[][] {{0, 0}, {0, 1}});
        Check.same("finishOf(0) without an operation", shop.finishOf(0), 0);
        Check.same("finishOf(1) with an operation", shop.finishOf(1), 1);
        Check.same("finishOf(2) without slices", new OpenShop().finishOf(2), 0);
        Check.noIndex("finishOf(3) without slices", () -> new OpenShop().finishOf(3));
    }

    /** "on another one or none in the next slice": job 1 stays on machine 0 (1 0 3 2, 2 0 3 1). */
    private static void noInterruptionInTheNextSlice() {
        OpenShop shop = Shops.of(new int[][] {{0, 1}, {2, 0}});
        sameMachines("job 1 stays", shop, 1, new int[] {0, 0});
        Check.same("interruptions() of a job that stays", shop.interruptions(), 0);
    }

    /** "and on that same machine again in some later one": no job comes back here. */
    private static void noInterruptionWithoutALaterSlice() {
        Check.same("interruptions() without slices", new OpenShop().interruptions(), 0);
        Check.same("interruptions() of one slice", Shops.of(new int[][] {{99}}).interruptions(), 0);
        OpenShop row = Shops.of(new int[][] {{1, 2, 3, 4, 5}});
        sameMachines("a row", row, 0, new int[] {0, 1, 2, 3, 4});
        Check.same("interruptions() of a row", row.interruptions(), 0);
        OpenShop column = Shops.of(new int[][] {{4}, {5}});
        sameMachines("a column", column, 0, new int[] {0, NONE});
        Check.same("interruptions() of a column", column.interruptions(), 0);
    }

    /** "or none in the next slice" */
    private static void interruptedByNone() {
        sameMachines("job 1 in a pause", pause(), 1, new int[] {1, NONE, 1});
        Check.same("interruptions() in a pause", pause().interruptions(), 1);
    }

    /** "on another one ... in the next slice": job 1 of the small table. */
    private static void interruptedByAnotherMachine() {
        sameMachines("job 1", Shops.small(), 1, new int[] {1, 0, 0, 1});
        Check.same("interruptions()", Shops.small().interruptions(), 1);
    }

    /** "again in some later one": 0 1 2 3, then 1 0 3 2, then 2 0 3 1, then 2 1 0 3. */
    private static void interruptedForSeveralSlices() {
        OpenShop shop = Shops.of(new int[][] {{1, 1}, {2, 2}});
        sameMachines("job 0", shop, 0, new int[] {0, 1, NONE, NONE});
        sameMachines("job 1", shop, 1, new int[] {1, 0, 0, 1});
        Check.same("interruptions() for several slices", shop.interruptions(), 1);
    }

    /**
     * "how often": job 2's operation on machine 1 twice, and that on machine 0 once: 0 3 1 2 4, then
     * 1 3 0 4 2, then 2 0 1 3 4, then 2 3 0 4 1, then 2 3 1 0 4.
     */
    private static void interruptedSeveralTimes() {
        OpenShop shop = Shops.of(new int[][] {{1, 1}, {1, 0}, {2, 3}});
        sameMachines("job 0", shop, 0, new int[] {0, 1, NONE, NONE, NONE});
        sameMachines("job 1", shop, 1, new int[] {NONE, NONE, 0, NONE, NONE});
        sameMachines("job 2", shop, 2, new int[] {1, 0, 1, 0, 1});
        Check.same("interruptions() of an operation, twice", shop.interruptions(), 3);
    }

    /** "the sum of finishOf() as a double, divided by the number of jobs" */
    private static void meanFinishAsADouble() {
        Check.sameDouble("meanFinish() of one job", Shops.of(new int[][] {{99}}).meanFinish(), 99.0);
        Check.sameDouble("meanFinish() of 4 and 9", Shops.of(new int[][] {{4}, {5}}).meanFinish(), 6.5);
        Check.sameDouble("meanFinish() of 2, 2 and 3",
                Shops.of(new int[][] {{2, 0, 0}, {0, 2, 0}, {0, 0, 3}}).meanFinish(), 7.0 / 3.0);
        Check.sameDouble("meanFinish() of five", Shops.fullest(5, 5).meanFinish(), 495.0);
        Check.sameDouble("meanFinish() of four at 0 and one at 1",
                Shops.of(new int[][] {{0}, {0}, {1}, {0}, {0}}).meanFinish(), 0.2);
        for (int jobs = 1; jobs <= 5; jobs++) {
            OpenShop shop = new OpenShop();
            shop.setSize(jobs, 1);
            Check.sameDouble("meanFinish() without slices", shop.meanFinish(), 0.0);
        }
    }
}
