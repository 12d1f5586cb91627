/** The boundary cases in the document's part "Table" and in promises 1 to 15, a test for each. */
public final class TableEdgeTest {
    private static final int LOW = Integer.MIN_VALUE;
    private static final int HIGH = Integer.MAX_VALUE;

    public static void main(String[] args) {
        oneToFiveJobsAndMachines();
        threeAndThreeAtFirst();
        timesFrom0To99();
        aTimeAbove0IsAnOperation();
        sumsFromEmptyToFull();
        theBoundIsTheGreatestOfAllTotals();
        setSizeMakesAllTimes0();
        setSizeReturnsTheSumBefore();
        setReturnsTheTimeBefore();
        startAndStepFrom0To99();
        timesOfAJobModulo100();
        theFirstTimeIsStart();
        setJobReturnsTheTotalThen();
        swapJobsWithItself();
        swapJobsReturnsTheTotalThen();
        transposeWithOneJobOrMachine();
        transposeReturnsTheBound();
        boundByFlowFromEmptyToFull();
        theFourPartsOfTheFilledTable();
        filledSumsAreTheBound();
        the512thCall();
        Check.end("TableEdgeTest");
    }

    /** "There are 1 to 5 jobs and 1 to 5 machines" */
    private static void oneToFiveJobsAndMachines() {
        for (int count = 1; count <= 5; count++) {
            sizeHolds(1, count);
            sizeHolds(count, 1);
            sizeHolds(5, count);
            sizeHolds(count, 5);
            OpenShop shop = new OpenShop();
            int right = count;
            for (int wrong : new int[] {0, 6, -1, LOW, HIGH}) {
                Check.noRange("setSize(" + wrong + ", " + right + ")",
                        () -> shop.setSize(wrong, right));
                Check.noRange("setSize(" + right + ", " + wrong + ")",
                        () -> shop.setSize(right, wrong));
            }
        }
    }

    private static void sizeHolds(int jobs, int machines) {
        OpenShop shop = new OpenShop();
        shop.setSize(jobs, machines);
        shop.set(jobs - 1, machines - 1, 6);
        int[][] due = new int[jobs][machines];
        due[jobs - 1][machines - 1] = 6;
        Shops.sameTable("after setSize(" + jobs + ", " + machines + ")", shop, due);
    }

    /** "at first 3 and 3" */
    private static void threeAndThreeAtFirst() {
        OpenShop shop = new OpenShop();
        Check.same("jobs() at first", shop.jobs(), 3);
        Check.same("machines() at first", shop.machines(), 3);
        Check.same("time(2, 2) at first", shop.time(2, 2), 0);
        Check.noIndex("time(3, 2) at first", () -> shop.time(3, 2));
        Check.noIndex("time(2, 3) at first", () -> shop.time(2, 3));
        Check.same("filled(5, 5) at first", shop.filled(5, 5), 0);
        Check.noIndex("filled(6, 5) at first", () -> shop.filled(6, 5));
        Check.same("set(2, 2, 4) at first", shop.set(2, 2, 4), 0);
        Shops.sameTable("the last job's last time", shop,
                new int[][] {{0, 0, 0}, {0, 0, 0}, {0, 0, 4}});
    }

    /** "a time, 0 to 99, at first 0" */
    private static void timesFrom0To99() {
        OpenShop shop = new OpenShop();
        for (int right : new int[] {0, 1, 98, 99}) {
            shop.set(1, 2, right);
            Check.same("time(1, 2) after set", shop.time(1, 2), right);
        }
        for (int wrong : new int[] {-1, 100, 101, 199, LOW, HIGH}) {
            Check.noRange("set(1, 2, " + wrong + ")", () -> shop.set(1, 2, wrong));
            Check.same("time(1, 2) after a refused set", shop.time(1, 2), 99);
        }
    }

    /** "a time above 0 is an operation" */
    private static void aTimeAbove0IsAnOperation() {
        OpenShop shop = new OpenShop();
        shop.setSize(1, 2);
        shop.set(0, 1, 0);
        Check.same("slices() with the time 0", shop.slices(), 0);
        Check.same("denseStart(0, 1) with the time 0", shop.denseStart(0, 1), OpenShop.NONE);
        Check.same("alternateStart(0, 1) with the time 0", shop.alternateStart(0, 1), OpenShop.NONE);
        shop.set(0, 1, 1);
        Check.same("slices() with the time 1", shop.slices(), 1);
        Check.same("denseStart(0, 1) with the time 1", shop.denseStart(0, 1), 0);
        Check.same("alternateStart(0, 1) with the time 1", shop.alternateStart(0, 1), 0);
    }

    /** The totals of a job and of a machine, and the sum of all times. */
    private static void sumsFromEmptyToFull() {
        OpenShop shop = new OpenShop();
        shop.setSize(5, 5);
        Check.same("jobTotal(4) without times", shop.jobTotal(4), 0);
        Check.same("machineTotal(4) without times", shop.machineTotal(4), 0);
        Check.same("total() without times", shop.total(), 0);
        shop.set(4, 4, 1);
        Check.same("jobTotal(4) of the last time", shop.jobTotal(4), 1);
        Check.same("machineTotal(4) of the last time", shop.machineTotal(4), 1);
        Check.same("jobTotal(3) beside it", shop.jobTotal(3), 0);
        Check.same("machineTotal(3) beside it", shop.machineTotal(3), 0);
        Check.same("total() of the last time", shop.total(), 1);
        OpenShop full = Shops.fullest(5, 5);
        for (int number = 0; number < 5; number++) {
            Check.same("jobTotal(" + number + ") of a full table", full.jobTotal(number), 495);
            Check.same("machineTotal(" + number + ") of a full table",
                    full.machineTotal(number), 495);
        }
        Check.same("total() of a full table", full.total(), 2475);
    }

    /** "The bound is the greatest of all totals of jobs and of machines." */
    private static void theBoundIsTheGreatestOfAllTotals() {
        Check.same("bound() of equal totals", Shops.of(new int[][] {{2, 3}, {3, 2}}).bound(), 5);
        Check.same("bound() by a job, 1 more", Shops.of(new int[][] {{2, 4}, {3, 1}}).bound(), 6);
        Check.same("bound() by a machine, 1 more",
                Shops.of(new int[][] {{2, 3}, {4, 1}}).bound(), 6);
        for (int number = 0; number < 5; number++) {
            OpenShop shop = new OpenShop();
            shop.setSize(5, 5);
            shop.set(number, 0, 50);
            shop.set(number, 4, 51);
            Check.same("bound() by the job " + number, shop.bound(), 101);
            shop.transpose();
            Check.same("bound() by the machine " + number, shop.bound(), 101);
        }
    }

    /** "all times become 0" */
    private static void setSizeMakesAllTimes0() {
        OpenShop shop = Shops.fullest(5, 5);
        shop.setSize(5, 5);
        Shops.sameTable("after setSize to the same size", shop, new int[5][5]);
        OpenShop grown = Shops.fullest(5, 5);
        grown.setSize(1, 1);
        Shops.sameTable("after setSize(1, 1)", grown, new int[1][1]);
        grown.setSize(5, 5);
        Shops.sameTable("after growing back", grown, new int[5][5]);
    }

    /** "Returns the sum of all times before." */
    private static void setSizeReturnsTheSumBefore() {
        Check.same("setSize of a new object", new OpenShop().setSize(3, 3), 0);
        OpenShop shop = Shops.fullest(5, 5);
        Check.noRange("setSize(5, 6)", () -> shop.setSize(5, 6));
        Check.same("setSize after a refused one", shop.setSize(5, 5), 2475);
        Check.same("setSize once more", shop.setSize(1, 1), 0);
        OpenShop turned = Shops.of(new int[][] {{1, 2, 4, 8, 16}});
        turned.transpose();
        Check.same("setSize after transpose()", turned.setSize(1, 1), 31);
    }

    /** "Returns the time before." */
    private static void setReturnsTheTimeBefore() {
        OpenShop shop = new OpenShop();
        Check.same("set(2, 0, 99)", shop.set(2, 0, 99), 0);
        Check.same("set(2, 0, 99) again", shop.set(2, 0, 99), 99);
        Check.noRange("set(2, 0, 100)", () -> shop.set(2, 0, 100));
        Check.same("set(2, 0, 0) after a refused one", shop.set(2, 0, 0), 99);
        Check.same("set(2, 0, 1)", shop.set(2, 0, 1), 0);
    }

    /** "start: 0 to 99", "step: 0 to 99" */
    private static void startAndStepFrom0To99() {
        OpenShop shop = new OpenShop();
        shop.setSize(1, 2);
        Check.same("setJob(0, 0, 0)", shop.setJob(0, 0, 0), 0);
        Check.same("setJob(0, 0, 99)", shop.setJob(0, 0, 99), 99);
        Check.same("setJob(0, 99, 0)", shop.setJob(0, 99, 0), 198);
        Check.same("setJob(0, 99, 99)", shop.setJob(0, 99, 99), 99 + 98);
        for (int wrong : new int[] {-1, 100, LOW, HIGH}) {
            Check.noRange("setJob(0, " + wrong + ", 0)", () -> shop.setJob(0, wrong, 0));
            Check.noRange("setJob(0, 0, " + wrong + ")", () -> shop.setJob(0, 0, wrong));
        }
        Shops.sameTable("after refused setJob", shop, new int[][] {{99, 98}});
    }

    /** "that on the one before and step, together, modulo 100" */
    private static void timesOfAJobModulo100() {
        sameJob(49, 50, new int[] {49, 99, 49, 99, 49});
        sameJob(50, 50, new int[] {50, 0, 50, 0, 50});
        sameJob(50, 51, new int[] {50, 1, 52, 3, 54});
        sameJob(95, 1, new int[] {95, 96, 97, 98, 99});
        sameJob(96, 1, new int[] {96, 97, 98, 99, 0});
        sameJob(99, 1, new int[] {99, 0, 1, 2, 3});
        sameJob(0, 99, new int[] {0, 99, 98, 97, 96});
        sameJob(99, 99, new int[] {99, 98, 97, 96, 95});
        sameJob(99, 0, new int[] {99, 99, 99, 99, 99});
    }

    private static void sameJob(int start, int step, int[] due) {
        OpenShop shop = Shops.of(new int[][] {{7, 7, 7, 7, 7}, {8, 8, 8, 8, 8}});
        shop.setJob(1, start, step);
        Shops.sameTable("after setJob(1, " + start + ", " + step + ")", shop,
                new int[][] {{7, 7, 7, 7, 7}, due});
    }

    /** "the time on machine 0": with one machine a step is of no use, but has its range. */
    private static void theFirstTimeIsStart() {
        OpenShop shop = new OpenShop();
        shop.setSize(2, 1);
        Check.same("setJob(1, 99, 99) on one machine", shop.setJob(1, 99, 99), 99);
        Check.noRange("setJob(1, 5, 100) on one machine", () -> shop.setJob(1, 5, 100));
        Shops.sameTable("after setJob on one machine", shop, new int[][] {{0}, {99}});
        shop.setSize(2, 2);
        Shops.sameTable("no second time is left", shop, new int[2][2]);
    }

    /** "Returns the total of the job then." */
    private static void setJobReturnsTheTotalThen() {
        OpenShop shop = Shops.fullest(5, 5);
        Check.same("setJob(4, 0, 1)", shop.setJob(4, 0, 1), 10);
        Check.same("setJob(4, 0, 0)", shop.setJob(4, 0, 0), 0);
        Check.same("setJob(4, 99, 0)", shop.setJob(4, 99, 0), 495);
    }

    /** Nothing says that job and other have to differ. */
    private static void swapJobsWithItself() {
        int[][] table = {{1, 2}, {3, 4}};
        OpenShop shop = Shops.of(table);
        Check.same("swapJobs(0, 0)", shop.swapJobs(0, 0), 3);
        Check.same("swapJobs(1, 1)", shop.swapJobs(1, 1), 7);
        Shops.sameTable("after swapJobs with itself", shop, table);
        Check.noIndex("swapJobs(2, 2)", () -> shop.swapJobs(2, 2));
        OpenShop one = Shops.of(new int[][] {{5}});
        Check.same("swapJobs(0, 0) of the only job", one.swapJobs(0, 0), 5);
        Check.noIndex("swapJobs(0, 1) of the only job", () -> one.swapJobs(0, 1));
    }

    /** "Returns the total of job then", which is that of other before. */
    private static void swapJobsReturnsTheTotalThen() {
        OpenShop shop = Shops.of(new int[][] {{99, 99}, {0, 0}, {1, 0}, {0, 1}, {0, 9}});
        Check.same("swapJobs(0, 4)", shop.swapJobs(0, 4), 9);
        Check.same("swapJobs(0, 4) again", shop.swapJobs(0, 4), 198);
        Check.same("swapJobs(4, 0)", shop.swapJobs(4, 0), 198);
        Check.same("swapJobs(1, 4) with a job without times", shop.swapJobs(1, 4), 198);
        Shops.sameTable("after swapJobs", shop,
                new int[][] {{0, 9}, {99, 99}, {1, 0}, {0, 1}, {0, 0}});
    }

    /** "Makes the jobs machines and the machines jobs" */
    private static void transposeWithOneJobOrMachine() {
        OpenShop shop = Shops.of(new int[][] {{1, 2, 3, 4, 5}});
        shop.transpose();
        Shops.sameTable("five jobs", shop, new int[][] {{1}, {2}, {3}, {4}, {5}});
        Check.noIndex("time(0, 1) of five jobs", () -> shop.time(0, 1));
        Check.noIndex("set(0, 1, 9) of five jobs", () -> shop.set(0, 1, 9));
        shop.transpose();
        Shops.sameTable("five machines", shop, new int[][] {{1, 2, 3, 4, 5}});
        Check.noIndex("time(1, 0) of five machines", () -> shop.time(1, 0));
        OpenShop one = Shops.of(new int[][] {{6}});
        one.transpose();
        Shops.sameTable("one job and one machine", one, new int[][] {{6}});
    }

    /** "returns the bound" */
    private static void transposeReturnsTheBound() {
        Check.same("transpose() without times", new OpenShop().transpose(), 0);
        Check.same("transpose() of one time", Shops.of(new int[][] {{99}}).transpose(), 99);
        Check.same("transpose() of a row", Shops.fullest(1, 5).transpose(), 495);
        Check.same("transpose() of a column", Shops.fullest(5, 1).transpose(), 495);
        Check.same("transpose() of the full table", Shops.fullest(5, 5).transpose(), 495);
    }

    /** "the least length for which a flow exists that carries all times" */
    private static void boundByFlowFromEmptyToFull() {
        for (int jobs = 1; jobs <= 5; jobs++) {
            for (int machines = 1; machines <= 5; machines++) {
                String of = jobs + " jobs, " + machines + " machines: boundByFlow() ";
                OpenShop shop = new OpenShop();
                shop.setSize(jobs, machines);
                Check.same(of + "without times", shop.boundByFlow(), 0);
                shop.set(jobs - 1, machines - 1, 1);
                Check.same(of + "of the last time", shop.boundByFlow(), 1);
                Check.same(of + "of a full table", Shops.fullest(jobs, machines).boundByFlow(),
                        99 * Math.max(jobs, machines));
            }
        }
        // A length of 6 is too small by 1 for the job, then for the machine.
        Check.same("boundByFlow() by a job", Shops.of(new int[][] {{3, 4}, {3, 0}}).boundByFlow(), 7);
        Check.same("boundByFlow() by a machine",
                Shops.of(new int[][] {{3, 3}, {4, 0}}).boundByFlow(), 7);
    }

    /** "Row j below J ... column m below M ...", with the last of each part and the first behind. */
    private static void theFourPartsOfTheFilledTable() {
        // bound 9, totals of the jobs 9 and 2, of the machines 5, 2 and 4
        OpenShop shop = Shops.of(new int[][] {{4, 2, 3}, {1, 0, 1}});
        Check.same("filled(1, 2), the last time", shop.filled(1, 2), 1);
        Check.same("filled(1, 3), job 0's column in row 1", shop.filled(1, 3), 0);
        Check.same("filled(0, 3), nothing less the bound", shop.filled(0, 3), 0);
        Check.same("filled(1, 4), the bound less 2", shop.filled(1, 4), 7);
        Check.same("filled(2, 0), the bound less 5", shop.filled(2, 0), 4);
        Check.same("filled(2, 1), machine 0's row in column 1", shop.filled(2, 1), 0);
        Check.same("filled(4, 2), the bound less 4", shop.filled(4, 2), 5);
        Check.same("filled(2, 3), the first time", shop.filled(2, 3), 4);
        Check.same("filled(2, 4), job 1 on machine 0", shop.filled(2, 4), 1);
        Check.same("filled(4, 4), the last time", shop.filled(4, 4), 1);
        Check.noIndex("filled(5, 4)", () -> shop.filled(5, 4));
        Check.noIndex("filled(4, 5)", () -> shop.filled(4, 5));
    }

    /** "So the sum of each row and of each column is the bound." */
    private static void filledSumsAreTheBound() {
        for (int jobs = 1; jobs <= 5; jobs++) {
            for (int machines = 1; machines <= 5; machines++) {
                OpenShop shop = Shops.patterned(jobs, machines);
                int size = jobs + machines;
                for (int row = 0; row < size; row++) {
                    int across = 0;
                    int down = 0;
                    for (int column = 0; column < size; column++) {
                        across += shop.filled(row, column);
                        down += shop.filled(column, row);
                    }
                    Check.same("the sum of the row " + row, across, shop.bound());
                    Check.same("the sum of the column " + row, down, shop.bound());
                }
            }
        }
    }

    /** "An object is used for at most 512 calls after it has been made" */
    private static void the512thCall() {
        OpenShop shop = new OpenShop();
        shop.setSize(5, 5);
        int sum = 0;
        for (int call = 1; call < 511; call++) {
            int place = call % 25;
            sum += call % 100 - shop.set(place / 5, place % 5, call % 100);
        }
        Check.same("total(), the 512th call", shop.total(), sum);
        OpenShop refused = Shops.of(new int[][] {{5}});
        for (int call = 2; call < 511; call++) {
            Check.noIndex("set(1, 0, 9)", () -> refused.set(1, 0, 9));
        }
        Check.same("slices(), the 511th call", refused.slices(), 1);
        Check.same("time(0, 0), the 512th call", refused.time(0, 0), 5);
    }
}
