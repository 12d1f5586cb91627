import java.util.Arrays;
import java.util.List;

/** Many tables of all sizes, each answer held against the Reference. */
public final class ReferenceTest {
    private static final int ROUNDS = 24;
    // Few values make many zeros and equal sums, many make many slices.
    private static final int[] SPREADS = {2, 3, 5, 12, 100};
    private static final int[] DIVISORS = {1, 2, 3, 7, 10, 50, 99, 100};

    private static long seed = 20261119;

    public static void main(String[] args) {
        OpenShop used = new OpenShop();
        for (int jobs = 1; jobs <= 5; jobs++) {
            for (int machines = 1; machines <= 5; machines++) {
                for (int round = 0; round < ROUNDS; round++) {
                    int[][] times = table(jobs, machines, SPREADS[round % SPREADS.length]);
                    int divisor = DIVISORS[next(DIVISORS.length)];
                    compare(Shops.of(times), times, divisor);
                    // An object that has held other tables answers as a new one.
                    Shops.write(used, times);
                    compare(used, times, divisor);
                }
            }
        }
        compareFullest();
        compareManySlices();
        Check.end("ReferenceTest");
    }

    private static int next(int limit) {
        seed = seed * 6364136223846793005L + 1442695040888963407L;
        return (int) ((seed >>> 33) % limit);
    }

    private static int[][] table(int jobs, int machines, int spread) {
        int[][] times = new int[jobs][machines];
        for (int[] row : times) {
            for (int machine = 0; machine < machines; machine++) {
                row[machine] = next(spread);
            }
        }
        return times;
    }

    private static void compareFullest() {
        int[][] times = new int[5][5];
        for (int[] row : times) {
            Arrays.fill(row, 99);
        }
        for (int divisor : DIVISORS) {
            compare(Shops.of(times), times, divisor);
        }
    }

    /** A table with more slices than any other that was found in a long search. */
    private static void compareManySlices() {
        int[][] times = {
            {85, 3, 3, 67, 88}, {56, 40, 24, 16, 84}, {22, 37, 72, 58, 98}, {83, 14, 22, 26, 15},
            {50, 24, 37, 61, 22},
        };
        Check.same("slices() of the table with many", Shops.of(times).slices(), 38);
        compare(Shops.of(times), times, 7);
    }

    private static void compare(OpenShop shop, int[][] times, int divisor) {
        String of = Arrays.deepToString(times) + " ";
        compareSums(of, shop, times);
        comparePlan(of, shop, times, Reference.slices(times));
        compareDispatch(of, shop, times);
        compareRounding(of, shop, times, divisor);
        Shops.sameTable(of + "after all questions", shop, times);
    }

    private static void compareSums(String of, OpenShop shop, int[][] times) {
        int[][] filled = Reference.filled(times);
        int bound = Reference.bound(times);
        int total = 0;
        Check.same(of + "bound()", shop.bound(), bound);
        Check.same(of + "boundByFlow()", shop.boundByFlow(), bound);
        for (int row = 0; row < filled.length; row++) {
            for (int column = 0; column < filled.length; column++) {
                Check.same(of + "filled(" + row + ", " + column + ")",
                        shop.filled(row, column), filled[row][column]);
            }
        }
        for (int job = 0; job < times.length; job++) {
            int due = bound - filled[job][times[0].length + job];
            Check.same(of + "jobTotal(" + job + ")", shop.jobTotal(job), due);
            total += due;
        }
        for (int machine = 0; machine < times[0].length; machine++) {
            Check.same(of + "machineTotal(" + machine + ")", shop.machineTotal(machine),
                    bound - filled[times.length + machine][machine]);
        }
        Check.same(of + "total()", shop.total(), total);
    }

    private static void comparePlan(String of, OpenShop shop, int[][] times, List<int[]> slices) {
        int[][] machineAt = unitByUnit(times, slices);
        int bound = machineAt.length;
        Check.same(of + "slices()", shop.slices(), slices.size());
        int start = 0;
        for (int slice = 0; slice < slices.size(); slice++) {
            Check.same(of + "sliceStart(" + slice + ")", shop.sliceStart(slice), start);
            Check.same(of + "sliceLength(" + slice + ")", shop.sliceLength(slice),
                    slices.get(slice)[0]);
            for (int job = 0; job < times.length; job++) {
                Check.same(of + "machineIn(" + slice + ", " + job + ")",
                        shop.machineIn(slice, job), machineAt[start][job]);
            }
            start += slices.get(slice)[0];
        }
        Check.same(of + "interruptions()", shop.interruptions(), breaks(machineAt));
        Check.noIndex(of + "sliceStart(slices())", () -> shop.sliceStart(slices.size()));
        compareTimes(of, shop, times, machineAt);
        int finishes = 0;
        for (int job = 0; job < times.length; job++) {
            int finish = 0;
            for (int time = 0; time < bound; time++) {
                finish = machineAt[time][job] == OpenShop.NONE ? finish : time + 1;
            }
            Check.same(of + "finishOf(" + job + ")", shop.finishOf(job), finish);
            finishes += finish;
        }
        Check.sameDouble(of + "meanFinish()", shop.meanFinish(), (double) finishes / times.length);
    }

    /** The machine of each job in each unit of time. */
    private static int[][] unitByUnit(int[][] times, List<int[]> slices) {
        int[][] machineAt = new int[Reference.bound(times)][times.length];
        int time = 0;
        for (int[] slice : slices) {
            for (int unit = 0; unit < slice[0]; unit++) {
                for (int job = 0; job < times.length; job++) {
                    boolean works = slice[job + 1] < times[0].length;
                    machineAt[time][job] = works ? slice[job + 1] : OpenShop.NONE;
                }
                time++;
            }
        }
        return machineAt;
    }

    /** A job's runs of units on a machine, less one, are the breaks of that operation. */
    private static int breaks(int[][] machineAt) {
        int breaks = 0;
        for (int job = 0; job < 5; job++) {
            for (int machine = 0; machine < 5; machine++) {
                int runs = 0;
                boolean before = false;
                for (int[] at : machineAt) {
                    boolean now = job < at.length && at[job] == machine;
                    runs += now && !before ? 1 : 0;
                    before = now;
                }
                breaks += Math.max(runs - 1, 0);
            }
        }
        return breaks;
    }

    private static void compareTimes(String of, OpenShop shop, int[][] times, int[][] machineAt) {
        int bound = machineAt.length;
        for (int machine = 0; machine < times[0].length; machine++) {
            int[] worked = new int[times.length];
            for (int time = 0; time <= bound + 1; time++) {
                int on = OpenShop.NONE;
                for (int job = 0; job < times.length; job++) {
                    Check.same(of + "done(" + job + ", " + machine + ", " + time + ")",
                            shop.done(job, machine, time), worked[job]);
                    if (time < bound && machineAt[time][job] == machine) {
                        on = job;
                        worked[job]++;
                    }
                }
                Check.same(of + "jobAt(" + time + ", " + machine + ")",
                        shop.jobAt(time, machine), on);
            }
            for (int job = 0; job < times.length; job++) {
                Check.same(of + "the whole of done", worked[job], times[job][machine]);
            }
        }
    }

    private static void compareDispatch(String of, OpenShop shop, int[][] times) {
        int[][] dense = Reference.dispatch(times, false);
        Check.same(of + "denseLength()", shop.denseLength(), Reference.length(times, dense));
        for (int job = 0; job < times.length; job++) {
            for (int machine = 0; machine < times[0].length; machine++) {
                Check.same(of + "denseStart(" + job + ", " + machine + ")",
                        shop.denseStart(job, machine), dense[job][machine]);
            }
        }
        if (times[0].length != 2) {
            Check.noState(of + "alternateLength()", () -> shop.alternateLength());
            Check.noState(of + "alternateStart(0, 0)", () -> shop.alternateStart(0, 0));
            return;
        }
        int[][] alternate = Reference.dispatch(times, true);
        Check.same(of + "alternateLength()", shop.alternateLength(),
                Reference.length(times, alternate));
        for (int job = 0; job < times.length; job++) {
            for (int machine = 0; machine < 2; machine++) {
                Check.same(of + "alternateStart(" + job + ", " + machine + ")",
                        shop.alternateStart(job, machine), alternate[job][machine]);
            }
        }
    }

    private static void compareRounding(String of, OpenShop shop, int[][] times, int divisor) {
        int[][] due = Reference.rounding(times, divisor);
        int total = 0;
        int up = 0;
        for (int job = 0; job < times.length; job++) {
            for (int machine = 0; machine < times[0].length; machine++) {
                Check.same(of + "rounded(" + job + ", " + machine + ", " + divisor + ")",
                        shop.rounded(job, machine, divisor), due[job][machine]);
                total += due[job][machine];
                up += due[job][machine] > times[job][machine] / divisor ? 1 : 0;
            }
        }
        Check.same(of + "roundedTotal(" + divisor + ")", shop.roundedTotal(divisor), total);
        Check.same(of + "roundedUp(" + divisor + ")", shop.roundedUp(divisor), up);
    }
}
