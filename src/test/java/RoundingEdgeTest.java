/**
 * The boundary cases in "Rounding" and in promises 28 to 30, a test for each. What is due is worked
 * out by hand in the comments, in quotients.
 */
public final class RoundingEdgeTest {
    private static final int LOW = Integer.MIN_VALUE;
    private static final int HIGH = Integer.MAX_VALUE;

    public static void main(String[] args) {
        divisorsFrom1To100();
        aWholeOneStays();
        notWholeByOne();
        noTimeStays0();
        aJobsSumThatIsWhole();
        aJobsSumThatIsNotWhole();
        aMachinesSumThatIsWhole();
        aMachinesSumThatIsNotWhole();
        theSumOfAllRoundedDown();
        theSumOfAllRoundedUp();
        leastAtTheFirstPlace();
        oneJobOrOneMachine();
        theFullestTable();
        theSumOfAllEntries();
        howManyAreRoundedUp();
        Check.end("RoundingEdgeTest");
    }

    private static void rounding(int[][] times, int divisor, int[][] due) {
        OpenShop shop = Shops.of(times);
        int total = 0;
        int up = 0;
        for (int job = 0; job < due.length; job++) {
            for (int machine = 0; machine < due[0].length; machine++) {
                Check.same("rounded(" + job + ", " + machine + ", " + divisor + ")",
                        shop.rounded(job, machine, divisor), due[job][machine]);
                total += due[job][machine];
                up += due[job][machine] * divisor > times[job][machine] ? 1 : 0;
            }
        }
        Check.same("roundedTotal(" + divisor + ")", shop.roundedTotal(divisor), total);
        Check.same("roundedUp(" + divisor + ")", shop.roundedUp(divisor), up);
    }

    /** "divisor: 1 to 100" */
    private static void divisorsFrom1To100() {
        int[][] table = {{99, 0}, {1, 50}};
        rounding(table, 1, table);
        // 0.99 0 and 0.01 0.5: job 0 may have 0; machine 0 has the sum 1, so that job 1 has it.
        rounding(table, 100, new int[][] {{0, 0}, {1, 0}});
        OpenShop shop = Shops.of(table);
        for (int wrong : new int[] {0, -1, 101, -100, LOW, HIGH}) {
            Check.noRange("rounded(1, 1, " + wrong + ")", () -> shop.rounded(1, 1, wrong));
            Check.noRange("roundedTotal(" + wrong + ")", () -> shop.roundedTotal(wrong));
            Check.noRange("roundedUp(" + wrong + ")", () -> shop.roundedUp(wrong));
        }
        for (int right = 1; right <= 100; right++) {
            int divisor = right;
            Check.answers("rounded(1, 1, " + right + ")", () -> shop.rounded(1, 1, divisor));
            Check.answers("roundedTotal(" + right + ")", () -> shop.roundedTotal(divisor));
            Check.answers("roundedUp(" + right + ")", () -> shop.roundedUp(divisor));
        }
    }

    /** "a whole one stays as it is" */
    private static void aWholeOneStays() {
        rounding(new int[][] {{7}}, 7, new int[][] {{1}});
        rounding(new int[][] {{98}}, 7, new int[][] {{14}});
        rounding(new int[][] {{99}}, 99, new int[][] {{1}});
        // 1 0.5 0.5: the sum is 2, and the 1 can't give or take.
        rounding(new int[][] {{2, 1, 1}}, 2, new int[][] {{1, 0, 1}});
        rounding(new int[][] {{1, 2, 1}}, 2, new int[][] {{0, 1, 1}});
        rounding(new int[][] {{1, 1, 2}}, 2, new int[][] {{0, 1, 1}});
    }

    /** "rounded down or up": one time less or more than whole. */
    private static void notWholeByOne() {
        // Alone an entry is rounded down, as that is the least.
        rounding(new int[][] {{6}}, 7, new int[][] {{0}});
        rounding(new int[][] {{8}}, 7, new int[][] {{1}});
        rounding(new int[][] {{97}}, 7, new int[][] {{13}});
        rounding(new int[][] {{99}}, 7, new int[][] {{14}});
        rounding(new int[][] {{98}}, 99, new int[][] {{0}});
        // With another one that makes the sum whole, that one is rounded up.
        rounding(new int[][] {{6, 1}}, 7, new int[][] {{0, 1}});
        rounding(new int[][] {{8, 6}}, 7, new int[][] {{1, 1}});
        rounding(new int[][] {{97, 99}}, 7, new int[][] {{13, 15}});
    }

    /** 0 is whole by every divisor. */
    private static void noTimeStays0() {
        rounding(new int[][] {{0}}, 1, new int[][] {{0}});
        rounding(new int[][] {{0}}, 100, new int[][] {{0}});
        rounding(new int[][] {{0, 1, 1}, {0, 0, 0}}, 2, new int[][] {{0, 0, 1}, {0, 0, 0}});
        rounding(new int[5][5], 3, new int[5][5]);
    }

    /** "has to be the total of the job divided by the divisor", if that is whole. */
    private static void aJobsSumThatIsWhole() {
        // 0.5 0.5 and 0 0.5: job 0 has 1, and with it machine 1 has its 1.
        rounding(new int[][] {{1, 1}, {0, 1}}, 2, new int[][] {{0, 1}, {0, 0}});
        // 0.5 0.5 0.5 and 0.5 0.5 0: machine 0 has 1, by job 1, whose sum 1 leaves none for machine 1,
        // so that job 0 has that one.
        rounding(new int[][] {{1, 1, 1}, {1, 1, 0}}, 2, new int[][] {{0, 1, 0}, {1, 0, 0}});
        // Thirds: 1 exactly, 2 exactly.
        rounding(new int[][] {{1, 2}}, 3, new int[][] {{0, 1}});
        rounding(new int[][] {{2, 2, 2}}, 3, new int[][] {{0, 1, 1}});
    }

    /** "rounded down or up as well": the least and the most that such a sum may be. */
    private static void aJobsSumThatIsNotWhole() {
        rounding(new int[][] {{1, 1}}, 3, new int[][] {{0, 0}});
        rounding(new int[][] {{2, 2}}, 3, new int[][] {{0, 1}});
        rounding(new int[][] {{2, 2, 1}}, 3, new int[][] {{0, 0, 1}});
        rounding(new int[][] {{2, 2, 2, 1}}, 3, new int[][] {{0, 0, 1, 1}});
        // Machine sums of 1 put both ups into job 1, whose sum 1.33 may be 2, and job 0's 0.67 is 0.
        rounding(new int[][] {{1, 1}, {2, 2}}, 3, new int[][] {{0, 0}, {1, 1}});
        // With 1 as the sum of job 0 too, one of the two is there.
        rounding(new int[][] {{2, 1}, {1, 2}}, 3, new int[][] {{0, 1}, {1, 0}});
    }

    /** "likewise the sum of those of each machine" */
    private static void aMachinesSumThatIsWhole() {
        // 0.5 0 and 0.5 0.5: machine 0 has 1, and job 1's sum is 1.
        rounding(new int[][] {{1, 0}, {1, 1}}, 2, new int[][] {{0, 0}, {1, 0}});
        // 0 0.5 0.5 and 0.5 0 0.5: job 0 has its 1 on machine 2, so that job 1 has none there.
        rounding(new int[][] {{0, 1, 1}, {1, 0, 1}}, 2, new int[][] {{0, 0, 1}, {1, 0, 0}});
        rounding(new int[][] {{1}, {2}}, 3, new int[][] {{0}, {1}});
        rounding(new int[][] {{2}, {2}, {2}}, 3, new int[][] {{0}, {1}, {1}});
    }

    private static void aMachinesSumThatIsNotWhole() {
        rounding(new int[][] {{1}, {1}}, 3, new int[][] {{0}, {0}});
        rounding(new int[][] {{2}, {2}}, 3, new int[][] {{0}, {1}});
        rounding(new int[][] {{2}, {2}, {1}}, 3, new int[][] {{0}, {0}, {1}});
        // Job sums of 1 put both ups onto machine 1, whose sum 1.33 may be 2.
        rounding(new int[][] {{1, 2}, {1, 2}}, 3, new int[][] {{0, 1}, {0, 1}});
    }

    /** "and that of all entries": no less than that rounded down. */
    private static void theSumOfAllRoundedDown() {
        // Each job and machine has 0.5 and might have 0, but all have 1.
        rounding(new int[][] {{0, 1}, {1, 0}}, 2, new int[][] {{0, 0}, {1, 0}});
        // By 3 all have 0.67, and may have 0; with a third 1 they have 1.
        rounding(new int[][] {{0, 1}, {1, 0}}, 3, new int[][] {{0, 0}, {0, 0}});
        rounding(new int[][] {{0, 1, 0}, {1, 0, 0}, {0, 0, 1}}, 3,
                new int[][] {{0, 0, 0}, {0, 0, 0}, {0, 0, 1}});
    }

    /** "and that of all entries": no more than that rounded up. */
    private static void theSumOfAllRoundedUp() {
        // 0.5 0.5 0.5 0.5, 0.5 0 0 1 and 0 0.5 1 0: all have 5. Job 0 has 2, and 0 0 1 1 would be
        // less, but then job 1 has machine 0's 1 and job 2 machine 1's, and all have 6.
        rounding(new int[][] {{1, 1, 1, 1}, {1, 0, 0, 2}, {0, 1, 2, 0}}, 2,
                new int[][] {{0, 1, 0, 1}, {1, 0, 0, 1}, {0, 0, 1, 0}});
        // With 0.5 more in all, 5.5, they may have 6.
        rounding(new int[][] {{1, 1, 1, 1}, {1, 0, 0, 2}, {0, 1, 2, 0}, {0, 0, 1, 0}}, 2,
                new int[][] {{0, 0, 1, 1}, {1, 0, 0, 1}, {0, 1, 1, 0}, {0, 0, 0, 0}});
    }

    /** "job by job, and of a job machine by machine, are the least at the first place" */
    private static void leastAtTheFirstPlace() {
        rounding(new int[][] {{1, 1}, {1, 1}}, 2, new int[][] {{0, 1}, {1, 0}});
        rounding(new int[][] {{1, 1, 1}, {1, 1, 1}, {1, 1, 1}}, 3,
                new int[][] {{0, 0, 1}, {0, 1, 0}, {1, 0, 0}});
        // 0.4 each, 1.6 in all: 1 or 2, and of those with 1 the least has it at the end.
        rounding(new int[][] {{2, 2, 2, 2}}, 5, new int[][] {{0, 0, 0, 1}});
        rounding(new int[][] {{2}, {2}, {2}, {2}}, 5, new int[][] {{0}, {0}, {0}, {1}});
    }

    /** With one job, or one machine, the sum of all is that of the job or the machine. */
    private static void oneJobOrOneMachine() {
        rounding(new int[][] {{1, 3, 5, 7, 9}}, 10, new int[][] {{0, 0, 0, 1, 1}});
        rounding(new int[][] {{1}, {3}, {5}, {7}, {9}}, 10, new int[][] {{0}, {0}, {0}, {1}, {1}});
        rounding(new int[][] {{1, 3, 5, 7, 4}}, 10, new int[][] {{0, 0, 0, 1, 1}});
        rounding(new int[][] {{1, 3, 5, 7, 3}}, 10, new int[][] {{0, 0, 0, 0, 1}});
    }

    /** 0.99 everywhere: 4.95 of each job and machine, and 24.75 in all. */
    private static void theFullestTable() {
        int[][] full = new int[5][5];
        int[][] due = new int[5][5];
        for (int job = 0; job < 5; job++) {
            for (int machine = 0; machine < 5; machine++) {
                full[job][machine] = 99;
                due[job][machine] = job + machine == 0 ? 0 : 1;
            }
        }
        rounding(full, 100, due);
        rounding(full, 1, full);
    }

    /** "Returns the sum of all entries of the rounding." */
    private static void theSumOfAllEntries() {
        Check.same("roundedTotal(1) without times", new OpenShop().roundedTotal(1), 0);
        Check.same("roundedTotal(100) without times", new OpenShop().roundedTotal(100), 0);
        Check.same("roundedTotal(1) of a full table", Shops.fullest(5, 5).roundedTotal(1), 2475);
        Check.same("roundedTotal(100) of a full table", Shops.fullest(5, 5).roundedTotal(100), 24);
        Check.same("roundedTotal(99) of a full table", Shops.fullest(5, 5).roundedTotal(99), 25);
        Check.same("roundedTotal(98) of a full table", Shops.fullest(5, 5).roundedTotal(98), 25);
    }

    /** "Returns how many entries of the rounding are rounded up.": whole ones are not. */
    private static void howManyAreRoundedUp() {
        Check.same("roundedUp(1) without times", new OpenShop().roundedUp(1), 0);
        Check.same("roundedUp(100) without times", new OpenShop().roundedUp(100), 0);
        Check.same("roundedUp(1) of a full table", Shops.fullest(5, 5).roundedUp(1), 0);
        Check.same("roundedUp(100) of a full table", Shops.fullest(5, 5).roundedUp(100), 24);
        Check.same("roundedUp(99) of a full table", Shops.fullest(5, 5).roundedUp(99), 0);
        Check.same("roundedUp(98) of a full table", Shops.fullest(5, 5).roundedUp(98), 0);
    }
}
