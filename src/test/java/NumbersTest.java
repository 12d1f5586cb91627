/**
 * "IndexOutOfBoundsException: there is no such job, machine, slice, row or column": each method that
 * takes such a number, at each size of the table, with the numbers there are and those beyond.
 */
public final class NumbersTest {
    private static final int LOW = Integer.MIN_VALUE;
    private static final int HIGH = Integer.MAX_VALUE;

    interface Use {
        void on(OpenShop shop, int number);
    }

    interface Count {
        int of(OpenShop shop);
    }

    public static void main(String[] args) {
        jobsInTheTable();
        jobsInThePlans();
        machinesInTheTable();
        machinesInThePlans();
        rowsAndColumns();
        slices();
        noSlices();
        Check.end("NumbersTest");
    }

    private static void jobsInTheTable() {
        Count jobs = OpenShop::jobs;
        everySize("set(n, 0, 9)", jobs, (shop, job) -> shop.set(job, 0, 9));
        everySize("setJob(n, 9, 9)", jobs, (shop, job) -> shop.setJob(job, 9, 9));
        everySize("swapJobs(n, 0)", jobs, (shop, job) -> shop.swapJobs(job, 0));
        everySize("swapJobs(0, n)", jobs, (shop, job) -> shop.swapJobs(0, job));
        everySize("swapJobs(n, n)", jobs, (shop, job) -> shop.swapJobs(job, job));
        everySize("time(n, 0)", jobs, (shop, job) -> shop.time(job, 0));
        everySize("jobTotal(n)", jobs, (shop, job) -> shop.jobTotal(job));
    }

    private static void jobsInThePlans() {
        Count jobs = OpenShop::jobs;
        everySize("machineIn(0, n)", jobs, (shop, job) -> shop.machineIn(0, job));
        everySize("done(n, 0, 9)", jobs, (shop, job) -> shop.done(job, 0, 9));
        everySize("finishOf(n)", jobs, (shop, job) -> shop.finishOf(job));
        everySize("denseStart(n, 0)", jobs, (shop, job) -> shop.denseStart(job, 0));
        twoMachines("alternateStart(n, 1)", jobs, (shop, job) -> shop.alternateStart(job, 1));
        everySize("rounded(n, 0, 9)", jobs, (shop, job) -> shop.rounded(job, 0, 9));
    }

    private static void machinesInTheTable() {
        Count machines = OpenShop::machines;
        everySize("set(0, n, 9)", machines, (shop, machine) -> shop.set(0, machine, 9));
        everySize("time(0, n)", machines, (shop, machine) -> shop.time(0, machine));
        everySize("machineTotal(n)", machines, (shop, machine) -> shop.machineTotal(machine));
    }

    private static void machinesInThePlans() {
        Count machines = OpenShop::machines;
        everySize("jobAt(9, n)", machines, (shop, machine) -> shop.jobAt(9, machine));
        everySize("jobAt(-1, n)", machines, (shop, machine) -> shop.jobAt(-1, machine));
        everySize("done(0, n, 9)", machines, (shop, machine) -> shop.done(0, machine, 9));
        everySize("denseStart(0, n)", machines, (shop, machine) -> shop.denseStart(0, machine));
        twoMachines("alternateStart(0, n)", machines,
                (shop, machine) -> shop.alternateStart(0, machine));
        everySize("rounded(0, n, 9)", machines, (shop, machine) -> shop.rounded(0, machine, 9));
    }

    /** "0 or more, less than jobs() and machines() together" */
    private static void rowsAndColumns() {
        Count together = shop -> shop.jobs() + shop.machines();
        everySize("filled(n, 0)", together, (shop, row) -> shop.filled(row, 0));
        everySize("filled(0, n)", together, (shop, column) -> shop.filled(0, column));
        everySize("filled(n, n)", together, (shop, number) -> shop.filled(number, number));
    }

    /** "0 or more, less than slices()" */
    private static void slices() {
        Count slices = OpenShop::slices;
        everySize("sliceStart(n)", slices, (shop, slice) -> shop.sliceStart(slice));
        everySize("sliceLength(n)", slices, (shop, slice) -> shop.sliceLength(slice));
        everySize("machineIn(n, 0)", slices, (shop, slice) -> shop.machineIn(slice, 0));
    }

    private static void noSlices() {
        for (int number : new int[] {-1, 0, 1, LOW, HIGH}) {
            Check.noIndex("sliceStart(" + number + ") without slices",
                    () -> new OpenShop().sliceStart(number));
            Check.noIndex("sliceLength(" + number + ") without slices",
                    () -> new OpenShop().sliceLength(number));
            Check.noIndex("machineIn(" + number + ", 0) without slices",
                    () -> new OpenShop().machineIn(number, 0));
        }
    }

    private static void everySize(String call, Count count, Use use) {
        for (int machines = 1; machines <= 5; machines++) {
            everyJobCount(call, machines, count, use);
        }
    }

    private static void twoMachines(String call, Count count, Use use) {
        everyJobCount(call, 2, count, use);
    }

    private static void everyJobCount(String call, int machines, Count count, Use use) {
        for (int jobs = 1; jobs <= 5; jobs++) {
            String of = jobs + " jobs, " + machines + " machines: " + call + " with n ";
            OpenShop shop = Shops.patterned(jobs, machines);
            int end = count.of(shop);
            for (int number = 0; number < end; number++) {
                int there = number;
                Check.answers(of + there, () -> use.on(shop, there));
            }
            for (int beyond : new int[] {-1, end, end + 1, LOW, HIGH}) {
                Check.noIndex(of + beyond, () -> use.on(shop, beyond));
            }
        }
    }
}
