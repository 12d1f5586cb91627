/**
 * The document's first sentence, in all three plans: "jobs need times on machines, in any order, a
 * job is on one machine at a time, and a machine works on one job at a time." No object is asked
 * more than 512 times.
 */
public final class OneAtATimeTest {
    private static final int NONE = OpenShop.NONE;
    // The times are below these, so that there are zeros, equal ones and long ones.
    private static final int[] SPREADS = {2, 4, 10};

    public static void main(String[] args) {
        for (int jobs = 1; jobs <= 5; jobs++) {
            for (int machines = 1; machines <= 5; machines++) {
                for (int spread : SPREADS) {
                    inEachSlice(table(jobs, machines, spread));
                    atEachTime(table(jobs, machines, spread));
                    inTheDensePlan(table(jobs, machines, spread));
                    inTheAlternatePlan(table(jobs, machines, spread));
                }
            }
        }
        Check.end("OneAtATimeTest");
    }

    private static int[][] table(int jobs, int machines, int spread) {
        int[][] times = new int[jobs][machines];
        for (int job = 0; job < jobs; job++) {
            for (int machine = 0; machine < machines; machine++) {
                times[job][machine] = (7 * job * job + 5 * machine + 3 * job * machine + 1) % spread;
            }
        }
        return times;
    }

    private static void inEachSlice(int[][] times) {
        OpenShop shop = Shops.of(times);
        int slices = shop.slices();
        for (int slice = 0; slice < slices; slice++) {
            boolean[] works = new boolean[times[0].length];
            for (int job = 0; job < times.length; job++) {
                int machine = shop.machineIn(slice, job);
                Check.holds("NONE or a machine", machine >= NONE && machine < works.length);
                if (machine != NONE) {
                    Check.holds("one job on the machine " + machine, !works[machine]);
                    works[machine] = true;
                }
            }
        }
        for (int job = 0; job < times.length; job++) {
            for (int machine = 0; machine < times[0].length; machine++) {
                Check.same("done(" + job + ", " + machine + ", the bound)",
                        shop.done(job, machine, shop.bound()), times[job][machine]);
            }
        }
    }

    private static void atEachTime(int[][] times) {
        OpenShop shop = Shops.of(times);
        int[][] units = new int[times.length][times[0].length];
        int bound = shop.bound();
        for (int time = 0; time < bound; time++) {
            boolean[] works = new boolean[times.length];
            for (int machine = 0; machine < times[0].length; machine++) {
                int job = shop.jobAt(time, machine);
                Check.holds("NONE or a job", job >= NONE && job < works.length);
                if (job != NONE) {
                    Check.holds("one machine for the job " + job, !works[job]);
                    works[job] = true;
                    units[job][machine]++;
                }
            }
        }
        for (int job = 0; job < times.length; job++) {
            for (int machine = 0; machine < times[0].length; machine++) {
                Check.same("the time of " + job + " on " + machine,
                        units[job][machine], times[job][machine]);
            }
        }
    }

    private static void inTheDensePlan(int[][] times) {
        OpenShop shop = Shops.of(times);
        int[][] starts = new int[times.length][times[0].length];
        for (int job = 0; job < times.length; job++) {
            for (int machine = 0; machine < times[0].length; machine++) {
                starts[job][machine] = shop.denseStart(job, machine);
            }
        }
        noneAtOnce("dense", times, starts, shop.denseLength());
        Check.holds("no plan is shorter than the bound", shop.denseLength() >= shop.bound());
    }

    private static void inTheAlternatePlan(int[][] times) {
        if (times[0].length != 2) {
            return;
        }
        OpenShop shop = Shops.of(times);
        int[][] starts = new int[times.length][2];
        for (int job = 0; job < times.length; job++) {
            for (int machine = 0; machine < 2; machine++) {
                starts[job][machine] = shop.alternateStart(job, machine);
            }
        }
        noneAtOnce("alternate", times, starts, shop.alternateLength());
        // The document does not say so, but this rule is known to find a shortest plan.
        Check.same("alternateLength()", shop.alternateLength(), shop.bound());
    }

    /** No two operations of a job, and no two on a machine, have a unit of time in common. */
    private static void noneAtOnce(String plan, int[][] times, int[][] starts, int length) {
        int[][] machineOf = new int[times.length][length];
        int[][] jobOn = new int[times[0].length][length];
        for (int job = 0; job < times.length; job++) {
            for (int machine = 0; machine < times[0].length; machine++) {
                boolean begins = starts[job][machine] != NONE;
                Check.holds(plan + ": an operation begins", begins == times[job][machine] > 0);
                for (int unit = 0; begins && unit < times[job][machine]; unit++) {
                    int time = starts[job][machine] + unit;
                    Check.same(plan + ": other machines of the job", machineOf[job][time]++, 0);
                    Check.same(plan + ": other jobs on the machine", jobOn[machine][time]++, 0);
                }
            }
        }
    }
}
