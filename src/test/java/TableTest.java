/** Promises 1 to 15: the table. */
public final class TableTest {
    private static final int LOW = Integer.MIN_VALUE;
    private static final int HIGH = Integer.MAX_VALUE;

    public static void main(String[] args) {
        promise1NewObject();
        promise2SetSize();
        promise3Set();
        promise4SetJob();
        promise5SwapJobs();
        promise6Transpose();
        promises7And8Counts();
        promise9Time();
        promise10JobTotal();
        promise11MachineTotal();
        promise12Total();
        promise13Bound();
        promise14BoundByFlow();
        promise15Filled();
        Check.end("TableTest");
    }

    private static void promise1NewObject() {
        OpenShop shop = new OpenShop();
        Shops.sameTable("a new object", shop, new int[3][3]);
        Check.same("total() of a new object", shop.total(), 0);
        OpenShop other = new OpenShop();
        other.set(0, 0, 5);
        Check.same("time(0, 0) of another object", shop.time(0, 0), 0);
    }

    private static void promise2SetSize() {
        OpenShop shop = new OpenShop();
        shop.set(0, 0, 7);
        shop.set(2, 2, 99);
        Check.same("setSize(5, 4)", shop.setSize(5, 4), 106);
        Shops.sameTable("after setSize(5, 4)", shop, new int[5][4]);
        shop.set(4, 3, 8);
        Check.same("setSize(1, 1)", shop.setSize(1, 1), 8);
        Shops.sameTable("after setSize(1, 1)", shop, new int[1][1]);
        Check.same("setSize(5, 5)", shop.setSize(5, 5), 0);
        Shops.sameTable("after setSize(5, 5)", shop, new int[5][5]);
        shop.set(3, 3, 4);
        Check.same("setSize to the same size", shop.setSize(5, 5), 4);
        Shops.sameTable("after setSize to the same size", shop, new int[5][5]);
        shop.set(1, 1, 3);
        for (int wrong : new int[] {0, 6, -1, LOW, HIGH}) {
            Check.noRange("setSize(" + wrong + ", 3)", () -> shop.setSize(wrong, 3));
            Check.noRange("setSize(3, " + wrong + ")", () -> shop.setSize(3, wrong));
        }
        Check.same("jobs() after refused sizes", shop.jobs(), 5);
        Check.same("machines() after refused sizes", shop.machines(), 5);
        Check.same("total() after refused sizes", shop.total(), 3);
    }

    private static void promise3Set() {
        OpenShop shop = new OpenShop();
        shop.setSize(2, 3);
        Check.same("set(1, 2, 99)", shop.set(1, 2, 99), 0);
        Check.same("set(1, 2, 0)", shop.set(1, 2, 0), 99);
        Check.same("set(1, 2, 14)", shop.set(1, 2, 14), 0);
        Check.same("set(0, 0, 1)", shop.set(0, 0, 1), 0);
        Shops.sameTable("after set", shop, new int[][] {{1, 0, 0}, {0, 0, 14}});
        for (int wrong : new int[] {-1, LOW, HIGH, 5}) {
            Check.noIndex("set(" + wrong + ", 0, 5)", () -> shop.set(wrong, 0, 5));
            Check.noIndex("set(0, " + wrong + ", 5)", () -> shop.set(0, wrong, 5));
            Check.noIndex("set(" + wrong + ", 0, 100)", () -> shop.set(wrong, 0, 100));
            Check.noIndex("set(0, " + wrong + ", -1)", () -> shop.set(0, wrong, -1));
        }
        Check.noIndex("set(2, 0, 5)", () -> shop.set(2, 0, 5));
        Check.noIndex("set(0, 3, 5)", () -> shop.set(0, 3, 5));
        for (int wrong : new int[] {-1, 100, LOW, HIGH}) {
            Check.noRange("set(0, 0, " + wrong + ")", () -> shop.set(0, 0, wrong));
        }
        Shops.sameTable("after refused set", shop, new int[][] {{1, 0, 0}, {0, 0, 14}});
    }

    private static void promise4SetJob() {
        OpenShop shop = new OpenShop();
        shop.setSize(3, 4);
        Check.same("setJob(0, 9, 95)", shop.setJob(0, 9, 95), 9 + 4 + 99 + 94);
        Check.same("setJob(1, 99, 1)", shop.setJob(1, 99, 1), 99 + 0 + 1 + 2);
        Check.same("setJob(2, 99, 99)", shop.setJob(2, 99, 99), 99 + 98 + 97 + 96);
        int[][] due = {{9, 4, 99, 94}, {99, 0, 1, 2}, {99, 98, 97, 96}};
        Shops.sameTable("after setJob", shop, due);
        Check.same("setJob(2, 6, 0)", shop.setJob(2, 6, 0), 24);
        Check.same("setJob(2, 0, 50)", shop.setJob(2, 0, 50), 100);
        Check.same("setJob(2, 0, 0)", shop.setJob(2, 0, 0), 0);
        due[2] = new int[4];
        Shops.sameTable("after setJob of 0", shop, due);
        for (int wrong : new int[] {-1, 3, LOW, HIGH}) {
            Check.noIndex("setJob(" + wrong + ", 1, 1)", () -> shop.setJob(wrong, 1, 1));
            Check.noIndex("setJob(" + wrong + ", 100, -1)", () -> shop.setJob(wrong, 100, -1));
        }
        for (int wrong : new int[] {-1, 100, LOW, HIGH}) {
            Check.noRange("setJob(0, " + wrong + ", 1)", () -> shop.setJob(0, wrong, 1));
            Check.noRange("setJob(0, 1, " + wrong + ")", () -> shop.setJob(0, 1, wrong));
        }
        Shops.sameTable("after refused setJob", shop, due);
        shop.setSize(1, 5);
        Check.same("setJob(0, 98, 99)", shop.setJob(0, 98, 99), 98 + 97 + 96 + 95 + 94);
    }

    private static void promise5SwapJobs() {
        OpenShop shop = Shops.of(new int[][] {{1, 2, 3}, {4, 5, 6}, {7, 8, 9}, {10, 11, 12}});
        Check.same("swapJobs(0, 3)", shop.swapJobs(0, 3), 33);
        int[][] due = {{10, 11, 12}, {4, 5, 6}, {7, 8, 9}, {1, 2, 3}};
        Shops.sameTable("after swapJobs(0, 3)", shop, due);
        Check.same("swapJobs(2, 2)", shop.swapJobs(2, 2), 24);
        Shops.sameTable("after swapJobs(2, 2)", shop, due);
        Check.same("swapJobs(3, 1)", shop.swapJobs(3, 1), 15);
        due = new int[][] {{10, 11, 12}, {1, 2, 3}, {7, 8, 9}, {4, 5, 6}};
        Shops.sameTable("after swapJobs(3, 1)", shop, due);
        for (int wrong : new int[] {-1, 4, LOW, HIGH}) {
            Check.noIndex("swapJobs(" + wrong + ", 0)", () -> shop.swapJobs(wrong, 0));
            Check.noIndex("swapJobs(0, " + wrong + ")", () -> shop.swapJobs(0, wrong));
            Check.noIndex("swapJobs(" + wrong + ", itself)", () -> shop.swapJobs(wrong, wrong));
        }
        Shops.sameTable("after refused swapJobs", shop, due);
        OpenShop wide = Shops.of(new int[][] {{1, 2, 3, 4, 5}, {6, 7, 8, 9, 10}});
        Check.same("swapJobs(1, 0)", wide.swapJobs(1, 0), 15);
        Shops.sameTable("after swapJobs(1, 0)", wide,
                new int[][] {{6, 7, 8, 9, 10}, {1, 2, 3, 4, 5}});
    }

    private static void promise6Transpose() {
        OpenShop shop = Shops.of(new int[][] {{1, 2, 3, 4, 5}, {6, 7, 8, 9, 20}});
        Check.same("transpose()", shop.transpose(), 50);
        Shops.sameTable("after transpose()", shop,
                new int[][] {{1, 6}, {2, 7}, {3, 8}, {4, 9}, {5, 20}});
        Check.noIndex("time(0, 2) after transpose()", () -> shop.time(0, 2));
        Check.same("transpose() again", shop.transpose(), 50);
        Shops.sameTable("after transpose() again", shop,
                new int[][] {{1, 2, 3, 4, 5}, {6, 7, 8, 9, 20}});
        OpenShop square = Shops.of(new int[][] {{0, 30, 2}, {3, 30, 5}, {6, 30, 8}});
        Check.same("transpose() of a square table", square.transpose(), 90);
        Shops.sameTable("a square table after transpose()", square,
                new int[][] {{0, 3, 6}, {30, 30, 30}, {2, 5, 8}});
        Check.same("transpose() without operations", new OpenShop().transpose(), 0);
        OpenShop one = Shops.of(new int[][] {{0, 0, 4}});
        one.transpose();
        one.setSize(3, 3);
        Shops.sameTable("after transpose() and setSize(3, 3)", one, new int[3][3]);
    }

    private static void promises7And8Counts() {
        OpenShop shop = new OpenShop();
        for (int jobs = 1; jobs <= 5; jobs++) {
            for (int machines = 1; machines <= 5; machines++) {
                shop.setSize(jobs, machines);
                Check.same("jobs()", shop.jobs(), jobs);
                Check.same("machines()", shop.machines(), machines);
                shop.transpose();
                Check.same("jobs() after transpose()", shop.jobs(), machines);
                Check.same("machines() after transpose()", shop.machines(), jobs);
            }
        }
    }

    private static void promise9Time() {
        OpenShop shop = Shops.of(new int[][] {{0, 99, 5}, {17, 0, 1}});
        Shops.sameTable("time", shop, new int[][] {{0, 99, 5}, {17, 0, 1}});
        for (int wrong : new int[] {-1, 3, 5, LOW, HIGH}) {
            Check.noIndex("time(" + wrong + ", 0)", () -> shop.time(wrong, 0));
            Check.noIndex("time(0, " + wrong + ")", () -> shop.time(0, wrong));
        }
        Check.noIndex("time(2, 0)", () -> shop.time(2, 0));
    }

    private static void promise10JobTotal() {
        OpenShop shop = Shops.of(new int[][] {{99, 99, 99, 99, 99}, {1, 0, 2, 0, 4}});
        Check.same("jobTotal(0)", shop.jobTotal(0), 495);
        Check.same("jobTotal(1)", shop.jobTotal(1), 7);
        for (int wrong : new int[] {-1, 2, 4, LOW, HIGH}) {
            Check.noIndex("jobTotal(" + wrong + ")", () -> shop.jobTotal(wrong));
        }
    }

    private static void promise11MachineTotal() {
        OpenShop shop = Shops.of(new int[][] {{99, 1}, {99, 0}, {99, 2}, {99, 0}, {99, 4}});
        Check.same("machineTotal(0)", shop.machineTotal(0), 495);
        Check.same("machineTotal(1)", shop.machineTotal(1), 7);
        for (int wrong : new int[] {-1, 2, 4, LOW, HIGH}) {
            Check.noIndex("machineTotal(" + wrong + ")", () -> shop.machineTotal(wrong));
        }
    }

    private static void promise12Total() {
        Check.same("total()", Shops.of(new int[][] {{1, 2, 3}, {40, 50, 60}}).total(), 156);
        OpenShop full = new OpenShop();
        full.setSize(5, 5);
        for (int job = 0; job < 5; job++) {
            full.setJob(job, 99, 0);
        }
        Check.same("total() of the fullest table", full.total(), 2475);
    }

    private static void promise13Bound() {
        Check.same("bound() without operations", new OpenShop().bound(), 0);
        Check.same("bound() by a job", Shops.of(new int[][] {{3, 1}, {2, 4}}).bound(), 6);
        Check.same("bound() by a machine", Shops.of(new int[][] {{3, 1}, {4, 2}}).bound(), 7);
        Check.same("bound() by the last job",
                Shops.of(new int[][] {{1, 1}, {1, 1}, {9, 9}}).bound(), 18);
        Check.same("bound() by the last machine",
                Shops.of(new int[][] {{1, 1, 9}, {1, 1, 9}}).bound(), 18);
        Check.same("bound() of one operation", Shops.of(new int[][] {{99}}).bound(), 99);
    }

    private static void promise14BoundByFlow() {
        Check.same("boundByFlow() without operations", new OpenShop().boundByFlow(), 0);
        Check.same("boundByFlow() by a job",
                Shops.of(new int[][] {{3, 1}, {2, 4}}).boundByFlow(), 6);
        Check.same("boundByFlow() by a machine",
                Shops.of(new int[][] {{3, 1}, {4, 2}}).boundByFlow(), 7);
        Check.same("boundByFlow() of one operation", Shops.of(new int[][] {{99}}).boundByFlow(), 99);
        Check.same("boundByFlow() of a row",
                Shops.of(new int[][] {{99, 99, 99, 99, 99}}).boundByFlow(), 495);
        OpenShop shop = Shops.of(new int[][] {{5, 0}, {0, 5}});
        Check.same("boundByFlow() of apart operations", shop.boundByFlow(), 5);
        shop.set(1, 0, 2);
        Check.same("boundByFlow() after a change", shop.boundByFlow(), 7);
    }

    private static void promise15Filled() {
        // bound 6, totals of jobs 4 and 6, of machines 5 and 5
        sameFilled(Shops.small(), new int[][] {
            {3, 1, 2, 0},
            {2, 4, 0, 0},
            {1, 0, 3, 2},
            {0, 1, 1, 4},
        });
        // bound 9, totals of the jobs 9 and 2, of the machines 5, 2 and 4
        sameFilled(Shops.of(new int[][] {{4, 2, 3}, {1, 0, 1}}), new int[][] {
            {4, 2, 3, 0, 0},
            {1, 0, 1, 0, 7},
            {4, 0, 0, 4, 1},
            {0, 7, 0, 2, 0},
            {0, 0, 5, 3, 1},
        });
        sameFilled(Shops.of(new int[][] {{8}}), new int[][] {{8, 0}, {0, 8}});
        OpenShop shop = Shops.of(new int[][] {{4, 2, 3}, {1, 0, 1}});
        for (int wrong : new int[] {-1, 5, 10, LOW, HIGH}) {
            Check.noIndex("filled(" + wrong + ", 0)", () -> shop.filled(wrong, 0));
            Check.noIndex("filled(0, " + wrong + ")", () -> shop.filled(0, wrong));
        }
    }

    private static void sameFilled(OpenShop shop, int[][] due) {
        for (int row = 0; row < due.length; row++) {
            for (int column = 0; column < due.length; column++) {
                Check.same("filled(" + row + ", " + column + ")",
                        shop.filled(row, column), due[row][column]);
            }
        }
    }
}
