/**
 * The boundary cases in "Plans without interruptions" and in promises 24 to 27, a test for each. The
 * starts are worked out by hand: of each job, machine by machine.
 */
public final class DispatchEdgeTest {
    private static final int NONE = OpenShop.NONE;

    public static void main(String[] args) {
        anOperationGoesOnToItsEnd();
        atTheTime0();
        allThatEndAreOverFirst();
        onlyAtTimesAtWhichOperationsEnd();
        machinesByRisingNumbers();
        aJobThatHasBegunAtThisVeryTime();
        ifThereIsOne();
        theJobWithTheLeastNumber();
        eachOperationBeginsOnce();
        everyOperationBegins();
        denseLengthIsTheLastEnd();
        denseLengthWithoutOperations();
        denseStartOfNoOperation();
        justTwoMachines();
        twoMachinesAfterTranspose();
        theLongestOnTheOtherMachine();
        aBegunOneCountsAs0();
        noneCountsAs0();
        equalOnesByTheLeastNumber();
        alternateLengthIsTheLastEnd();
        alternateLengthWithoutOperations();
        alternateStartOfNoOperation();
        Check.end("DispatchEdgeTest");
    }

    private static void dense(int[][] times, int[][] due, int length) {
        OpenShop shop = Shops.of(times);
        Check.same("denseLength()", shop.denseLength(), length);
        for (int job = 0; job < due.length; job++) {
            for (int machine = 0; machine < due[0].length; machine++) {
                Check.same("denseStart(" + job + ", " + machine + ")",
                        shop.denseStart(job, machine), due[job][machine]);
            }
        }
    }

    private static void alternate(int[][] times, int[][] due, int length) {
        OpenShop shop = Shops.of(times);
        Check.same("alternateLength()", shop.alternateLength(), length);
        for (int job = 0; job < due.length; job++) {
            for (int machine = 0; machine < 2; machine++) {
                Check.same("alternateStart(" + job + ", " + machine + ")",
                        shop.alternateStart(job, machine), due[job][machine]);
            }
        }
    }

    /** "an operation that has begun goes on to its end": the next one begins there, not before. */
    private static void anOperationGoesOnToItsEnd() {
        dense(new int[][] {{3}, {4}}, new int[][] {{0}, {3}}, 7);
        dense(new int[][] {{3, 4}}, new int[][] {{0, 3}}, 7);
        dense(new int[][] {{99}, {99}, {99}, {99}, {99}},
                new int[][] {{0}, {99}, {198}, {297}, {396}}, 495);
        alternate(new int[][] {{3, 4}}, new int[][] {{0, 3}}, 7);
    }

    /** "At the time 0" */
    private static void atTheTime0() {
        dense(new int[][] {{1}}, new int[][] {{0}}, 1);
        dense(new int[][] {{0, 0}, {0, 7}}, new int[][] {{NONE, NONE}, {NONE, 0}}, 7);
        alternate(new int[][] {{0, 0}, {0, 7}}, new int[][] {{NONE, NONE}, {NONE, 0}}, 7);
    }

    /** "first all that end are over": both end at 2 and change; with one at 3, the other waits. */
    private static void allThatEndAreOverFirst() {
        dense(new int[][] {{2, 2}, {2, 2}}, new int[][] {{0, 2}, {2, 0}}, 4);
        dense(new int[][] {{2, 2}, {3, 3}}, new int[][] {{0, 3}, {3, 0}}, 6);
        dense(new int[][] {{3, 3}, {2, 2}}, new int[][] {{0, 3}, {3, 0}}, 6);
        alternate(new int[][] {{2, 2}, {2, 2}}, new int[][] {{0, 2}, {2, 0}}, 4);
        alternate(new int[][] {{2, 2}, {2, 3}}, new int[][] {{2, 0}, {0, 2}}, 5);
    }

    /** "then at each time at which operations end": at 1 too, though nothing can begin there. */
    private static void onlyAtTimesAtWhichOperationsEnd() {
        // Machine 0 is free from 1 on, and finds job 1 free at 5 alone, when machine 1 ends.
        dense(new int[][] {{1, 0}, {2, 5}}, new int[][] {{0, NONE}, {5, 0}}, 7);
        // Machine 2 ends at 3, which is nothing to the other two.
        dense(new int[][] {{1, 0, 0}, {2, 5, 0}, {0, 0, 3}},
                new int[][] {{0, NONE, NONE}, {5, 0, NONE}, {NONE, NONE, 0}}, 7);
    }

    /** "then each free machine, by rising numbers" */
    private static void machinesByRisingNumbers() {
        dense(new int[][] {{1, 1, 1, 1, 1}}, new int[][] {{0, 1, 2, 3, 4}}, 5);
        dense(new int[][] {{9, 1}, {1, 9}}, new int[][] {{0, 9}, {9, 0}}, 10);
        alternate(new int[][] {{1, 1}}, new int[][] {{0, 1}}, 2);
    }

    /** "on no machine, one that has begun at this very time too" */
    private static void aJobThatHasBegunAtThisVeryTime() {
        dense(new int[][] {{4, 4}, {0, 0}}, new int[][] {{0, 4}, {NONE, NONE}}, 8);
        dense(new int[][] {{4, 4}, {0, 4}}, new int[][] {{0, 4}, {NONE, 0}}, 8);
        alternate(new int[][] {{4, 4}, {0, 0}}, new int[][] {{0, 4}, {NONE, NONE}}, 8);
        // At 2 too: machine 0 takes job 2 then, and machine 1 behind it takes job 0.
        dense(new int[][] {{2, 1}, {0, 2}, {3, 3}}, new int[][] {{0, 2}, {NONE, 0}, {2, 5}}, 8);
    }

    /** "if there is one": a machine without an operation for a free job begins none. */
    private static void ifThereIsOne() {
        dense(new int[][] {{0, 1}, {0, 1}}, new int[][] {{NONE, 0}, {NONE, 1}}, 2);
        alternate(new int[][] {{0, 1}, {0, 1}}, new int[][] {{NONE, 0}, {NONE, 1}}, 2);
        alternate(new int[][] {{1, 0}, {1, 0}}, new int[][] {{0, NONE}, {1, NONE}}, 2);
    }

    /** "In the dense plan it takes the job with the least number." */
    private static void theJobWithTheLeastNumber() {
        dense(new int[][] {{0}, {2}, {1}, {9}, {0}},
                new int[][] {{NONE}, {0}, {2}, {3}, {NONE}}, 12);
        // The least number of those that are free: job 0 is on machine 0.
        dense(new int[][] {{5, 1}, {0, 9}, {0, 9}},
                new int[][] {{0, 9}, {NONE, 0}, {NONE, 10}}, 19);
    }

    /** "an operation that has not begun yet" */
    private static void eachOperationBeginsOnce() {
        dense(new int[][] {{1}, {99}}, new int[][] {{0}, {1}}, 100);
        alternate(new int[][] {{1, 0}, {99, 0}}, new int[][] {{0, NONE}, {1, NONE}}, 100);
    }

    /** However many times there are at which operations end: up to 25. */
    private static void everyOperationBegins() {
        for (int jobs = 1; jobs <= 5; jobs++) {
            for (int machines = 1; machines <= 5; machines++) {
                OpenShop shop = Shops.patterned(jobs, machines);
                for (int place = 0; place < jobs * machines; place++) {
                    int job = place / machines;
                    int machine = place % machines;
                    Check.holds("denseStart(" + job + ", " + machine + ") of 0 or more",
                            shop.denseStart(job, machine) >= 0);
                    Check.holds("alternateStart(" + job + ", " + machine + ") of 0 or more",
                            machines != 2 || shop.alternateStart(job, machine) >= 0);
                }
            }
        }
    }

    /** "the time at which its last operation ends", not the end of the last one to begin. */
    private static void denseLengthIsTheLastEnd() {
        dense(new int[][] {{2, 0}, {1, 0}, {0, 9}},
                new int[][] {{0, NONE}, {2, NONE}, {NONE, 0}}, 9);
        dense(new int[][] {{0, 2}, {0, 1}, {9, 0}},
                new int[][] {{NONE, 0}, {NONE, 2}, {0, NONE}}, 9);
        dense(new int[][] {{0, 0, 0, 0, 99}}, new int[][] {{NONE, NONE, NONE, NONE, 0}}, 99);
    }

    /** "0 without operations" */
    private static void denseLengthWithoutOperations() {
        for (int jobs = 1; jobs <= 5; jobs++) {
            for (int machines = 1; machines <= 5; machines++) {
                OpenShop shop = Shops.fullest(jobs, machines);
                shop.denseLength();
                shop.setSize(jobs, machines);
                Check.same("denseLength() without operations", shop.denseLength(), 0);
                shop.set(jobs - 1, machines - 1, 1);
                Check.same("denseLength() with the last operation", shop.denseLength(), 1);
            }
        }
    }

    /** "NONE if the job has no operation on the machine" */
    private static void denseStartOfNoOperation() {
        OpenShop shop = new OpenShop();
        Check.same("denseStart(2, 2) of the time 0", shop.denseStart(2, 2), NONE);
        shop.set(2, 2, 1);
        Check.same("denseStart(2, 2) of the time 1", shop.denseStart(2, 2), 0);
        shop.set(2, 2, 0);
        Check.same("denseStart(2, 2) of the time 0 again", shop.denseStart(2, 2), NONE);
        Check.noIndex("denseStart(3, 2)", () -> shop.denseStart(3, 2));
        Check.noIndex("denseStart(2, 3)", () -> shop.denseStart(2, 3));
    }

    /** "if there are not just two machines" */
    private static void justTwoMachines() {
        for (int jobs = 1; jobs <= 5; jobs++) {
            int last = jobs - 1;
            for (int machines : new int[] {1, 3, 4, 5}) {
                OpenShop shop = Shops.patterned(jobs, machines);
                Check.noState("alternateLength()", () -> shop.alternateLength());
                Check.noState("alternateStart(last, 0)", () -> shop.alternateStart(last, 0));
            }
            OpenShop two = Shops.patterned(jobs, 2);
            Check.answers("alternateLength() with two", () -> two.alternateLength());
            Check.answers("alternateStart(last, 1) with two", () -> two.alternateStart(last, 1));
        }
        OpenShop empty = new OpenShop();
        Check.noState("alternateLength() of a new object", () -> empty.alternateLength());
        Check.noState("alternateStart(0, 0) of a new object", () -> empty.alternateStart(0, 0));
    }

    /** Two jobs are not two machines, but become them. */
    private static void twoMachinesAfterTranspose() {
        OpenShop shop = Shops.of(new int[][] {{1, 2, 3}, {4, 5, 6}});
        Check.noState("alternateLength() of two jobs", () -> shop.alternateLength());
        shop.transpose();
        // At 0 machine 0 takes job 2 and machine 1 job 1; at 3 job 0; at 5 job 1, and then job 2.
        Check.same("alternateStart(2, 0)", shop.alternateStart(2, 0), 0);
        Check.same("alternateStart(1, 1)", shop.alternateStart(1, 1), 0);
        Check.same("alternateStart(0, 0)", shop.alternateStart(0, 0), 3);
        Check.same("alternateStart(1, 0)", shop.alternateStart(1, 0), 5);
        Check.same("alternateStart(0, 1)", shop.alternateStart(0, 1), 5);
        Check.same("alternateStart(2, 1)", shop.alternateStart(2, 1), 9);
        Check.same("alternateLength()", shop.alternateLength(), 15);
        shop.transpose();
        Check.noState("alternateLength() of three machines", () -> shop.alternateLength());
    }

    /** "it takes the job whose operation on the other machine is the longest": by 1 longer. */
    private static void theLongestOnTheOtherMachine() {
        alternate(new int[][] {{1, 98}, {1, 99}}, new int[][] {{98, 0}, {0, 98}}, 197);
        alternate(new int[][] {{1, 99}, {1, 98}}, new int[][] {{0, 98}, {98, 0}}, 197);
        // Machine 0 has nothing to do at 0, and machine 1 looks at what is on machine 0.
        alternate(new int[][] {{0, 9}, {0, 9}, {0, 9}},
                new int[][] {{NONE, 0}, {NONE, 9}, {NONE, 18}}, 27);
        // Job 3 is on machine 0 up to 9; machine 1 takes job 2, with 8 there, then job 1, with 7, and
        // then job 0; at 9 jobs 1 and 2 have both begun on machine 1.
        alternate(new int[][] {{0, 1}, {7, 2}, {8, 2}, {9, 9}},
                new int[][] {{NONE, 4}, {9, 2}, {16, 0}, {0, 9}}, 24);
    }

    /** "where it has begun ... that counts as 0" */
    private static void aBegunOneCountsAs0() {
        // At 1 machine 1 has jobs 1 and 2, and job 2's 1 on machine 0 has begun and ended.
        alternate(new int[][] {{0, 1}, {0, 1}, {1, 1}},
                new int[][] {{NONE, 0}, {NONE, 1}, {0, 2}}, 3);
        // Job 0 likewise, and it has the least number.
        alternate(new int[][] {{1, 1}, {0, 1}, {0, 1}},
                new int[][] {{0, 1}, {NONE, 0}, {NONE, 2}}, 3);
    }

    /** "or there is none, that counts as 0": 1 on the other machine is more. */
    private static void noneCountsAs0() {
        alternate(new int[][] {{0, 5}, {2, 0}, {1, 1}},
                new int[][] {{NONE, 0}, {1, NONE}, {0, 5}}, 6);
        alternate(new int[][] {{0, 5}, {2, 0}, {1, 0}},
                new int[][] {{NONE, 0}, {0, NONE}, {2, NONE}}, 5);
    }

    /** "of several the job with the least number" */
    private static void equalOnesByTheLeastNumber() {
        alternate(new int[][] {{1, 98}, {1, 98}}, new int[][] {{0, 98}, {98, 0}}, 196);
        // Machine 0: at 0 job 1 of three 5s, at 1 job 2 of two, at 2 job 4, as job 3 is on machine 1,
        // at 3 job 0, at 6 job 3. Machine 1: at 0 job 0 of 1s, at 1 job 3 before 4 (job 1 has begun on
        // machine 0), and from 6 on jobs 1, 2 and 4, which have all begun there.
        alternate(new int[][] {{1, 1}, {1, 5}, {1, 5}, {1, 5}, {1, 1}},
                new int[][] {{3, 0}, {0, 6}, {1, 11}, {6, 1}, {2, 16}}, 17);
    }

    /** "the time at which its last operation ends" */
    private static void alternateLengthIsTheLastEnd() {
        alternate(new int[][] {{2, 0}, {1, 0}, {0, 9}},
                new int[][] {{0, NONE}, {2, NONE}, {NONE, 0}}, 9);
        alternate(new int[][] {{9, 0}, {0, 2}, {0, 1}},
                new int[][] {{0, NONE}, {NONE, 0}, {NONE, 2}}, 9);
    }

    /** "0 without operations" */
    private static void alternateLengthWithoutOperations() {
        for (int jobs = 1; jobs <= 5; jobs++) {
            OpenShop shop = Shops.fullest(jobs, 2);
            shop.alternateLength();
            shop.setSize(jobs, 2);
            Check.same("alternateLength() without operations", shop.alternateLength(), 0);
            shop.set(jobs - 1, 1, 1);
            Check.same("alternateLength() with the last operation", shop.alternateLength(), 1);
        }
    }

    /** "NONE if the job has no operation on the machine" */
    private static void alternateStartOfNoOperation() {
        OpenShop shop = new OpenShop();
        shop.setSize(5, 2);
        Check.same("alternateStart(4, 1) of the time 0", shop.alternateStart(4, 1), NONE);
        shop.set(4, 1, 1);
        Check.same("alternateStart(4, 1) of the time 1", shop.alternateStart(4, 1), 0);
        Check.same("alternateStart(4, 0) beside it", shop.alternateStart(4, 0), NONE);
        Check.noIndex("alternateStart(5, 1)", () -> shop.alternateStart(5, 1));
        Check.noIndex("alternateStart(4, 2)", () -> shop.alternateStart(4, 2));
    }
}
