import java.util.List;

/**
 * "A call that throws changes nothing", for each method that throws; "the first line of a method's
 * throws clause that applies decides", for each that has two; and "no question changes anything".
 */
public final class RefusalTest {
    private static final int LOW = Integer.MIN_VALUE;
    private static final int HIGH = Integer.MAX_VALUE;
    private static final int[] BAD_TIMES = {-1, 100, LOW, HIGH};
    private static final int[] BAD_DIVISORS = {0, 101, -1, LOW, HIGH};
    // Two machines, so that the alternate plan can be asked for; three; and as little as there is.
    private static final int[][][] TABLES = {
        {{3, 1}, {2, 4}, {0, 5}}, {{4, 2, 3}, {1, 0, 1}}, {{8}}, {{0, 0}, {0, 0}},
    };

    interface Use {
        void on(OpenShop shop);
    }

    interface Refusal {
        void check(String what, Check.Call call);
    }

    public static void main(String[] args) {
        setSizeChangesNothing();
        setChangesNothing();
        setJobChangesNothing();
        swapJobsChangesNothing();
        questionsOfTheTableChangeNothing();
        questionsOfSlicesChangeNothing();
        questionsOfTimesChangeNothing();
        questionsOfDispatchingChangeNothing();
        questionsOfRoundingChangeNothing();
        theFirstLineOfSetDecides();
        theFirstLineOfSetJobDecides();
        theFirstLineOfAlternateStartDecides();
        theFirstLineOfRoundedDecides();
        noQuestionChangesAnything();
        Check.end("RefusalTest");
    }

    private static void setSizeChangesNothing() {
        for (int bad : new int[] {0, 6, -1, LOW, HIGH}) {
            range("setSize(" + bad + ", 1)", shop -> shop.setSize(bad, 1));
            range("setSize(5, " + bad + ")", shop -> shop.setSize(5, bad));
            range("setSize(" + bad + ", " + bad + ")", shop -> shop.setSize(bad, bad));
        }
        range("setSize(0, 6)", shop -> shop.setSize(0, 6));
        range("setSize(6, 0)", shop -> shop.setSize(6, 0));
    }

    private static void setChangesNothing() {
        index("set(-1, 0, 7)", shop -> shop.set(-1, 0, 7));
        index("set(jobs, 0, 7)", shop -> shop.set(shop.jobs(), 0, 7));
        index("set(0, -1, 7)", shop -> shop.set(0, -1, 7));
        index("set(0, machines, 7)", shop -> shop.set(0, shop.machines(), 7));
        for (int bad : BAD_TIMES) {
            range("set(0, 0, " + bad + ")", shop -> shop.set(0, 0, bad));
        }
    }

    private static void setJobChangesNothing() {
        index("setJob(-1, 7, 7)", shop -> shop.setJob(-1, 7, 7));
        index("setJob(jobs, 7, 7)", shop -> shop.setJob(shop.jobs(), 7, 7));
        for (int bad : BAD_TIMES) {
            range("setJob(0, " + bad + ", 7)", shop -> shop.setJob(0, bad, 7));
            range("setJob(0, 7, " + bad + ")", shop -> shop.setJob(0, 7, bad));
            range("setJob(0, " + bad + ", " + bad + ")", shop -> shop.setJob(0, bad, bad));
        }
    }

    private static void swapJobsChangesNothing() {
        index("swapJobs(-1, 0)", shop -> shop.swapJobs(-1, 0));
        index("swapJobs(0, -1)", shop -> shop.swapJobs(0, -1));
        index("swapJobs(jobs, 0)", shop -> shop.swapJobs(shop.jobs(), 0));
        index("swapJobs(0, jobs)", shop -> shop.swapJobs(0, shop.jobs()));
        index("swapJobs(jobs, jobs)", shop -> shop.swapJobs(shop.jobs(), shop.jobs()));
    }

    private static void questionsOfTheTableChangeNothing() {
        index("time(-1, 0)", shop -> shop.time(-1, 0));
        index("time(jobs, 0)", shop -> shop.time(shop.jobs(), 0));
        index("time(0, machines)", shop -> shop.time(0, shop.machines()));
        index("jobTotal(-1)", shop -> shop.jobTotal(-1));
        index("jobTotal(jobs)", shop -> shop.jobTotal(shop.jobs()));
        index("machineTotal(-1)", shop -> shop.machineTotal(-1));
        index("machineTotal(machines)", shop -> shop.machineTotal(shop.machines()));
        index("filled(-1, 0)", shop -> shop.filled(-1, 0));
        index("filled(jobs + machines, 0)",
                shop -> shop.filled(shop.jobs() + shop.machines(), 0));
        index("filled(0, jobs + machines)",
                shop -> shop.filled(0, shop.jobs() + shop.machines()));
    }

    private static void questionsOfSlicesChangeNothing() {
        index("sliceStart(-1)", shop -> shop.sliceStart(-1));
        index("sliceStart(slices)", shop -> shop.sliceStart(shop.slices()));
        index("sliceLength(-1)", shop -> shop.sliceLength(-1));
        index("sliceLength(slices)", shop -> shop.sliceLength(shop.slices()));
        index("machineIn(-1, 0)", shop -> shop.machineIn(-1, 0));
        index("machineIn(slices, 0)", shop -> shop.machineIn(shop.slices(), 0));
        index("machineIn(0, -1)", shop -> shop.machineIn(0, -1));
        index("machineIn(0, jobs)", shop -> shop.machineIn(0, shop.jobs()));
        index("machineIn(slices, jobs)", shop -> shop.machineIn(shop.slices(), shop.jobs()));
    }

    private static void questionsOfTimesChangeNothing() {
        index("jobAt(0, -1)", shop -> shop.jobAt(0, -1));
        index("jobAt(0, machines)", shop -> shop.jobAt(0, shop.machines()));
        index("done(-1, 0, 3)", shop -> shop.done(-1, 0, 3));
        index("done(jobs, 0, 3)", shop -> shop.done(shop.jobs(), 0, 3));
        index("done(0, -1, 3)", shop -> shop.done(0, -1, 3));
        index("done(0, machines, 3)", shop -> shop.done(0, shop.machines(), 3));
        index("finishOf(-1)", shop -> shop.finishOf(-1));
        index("finishOf(jobs)", shop -> shop.finishOf(shop.jobs()));
    }

    private static void questionsOfDispatchingChangeNothing() {
        index("denseStart(-1, 0)", shop -> shop.denseStart(-1, 0));
        index("denseStart(jobs, 0)", shop -> shop.denseStart(shop.jobs(), 0));
        index("denseStart(0, machines)", shop -> shop.denseStart(0, shop.machines()));
        index("alternateStart(-1, 0)", shop -> shop.alternateStart(-1, 0));
        index("alternateStart(jobs, 0)", shop -> shop.alternateStart(shop.jobs(), 0));
        index("alternateStart(0, machines)", shop -> shop.alternateStart(0, shop.machines()));
        for (int[][] table : new int[][][] {TABLES[1], TABLES[2]}) {
            refuse(table, "alternateLength()", Check::noState, shop -> shop.alternateLength());
            refuse(table, "alternateStart(0, 0)", Check::noState, shop -> shop.alternateStart(0, 0));
        }
    }

    private static void questionsOfRoundingChangeNothing() {
        index("rounded(-1, 0, 2)", shop -> shop.rounded(-1, 0, 2));
        index("rounded(jobs, 0, 2)", shop -> shop.rounded(shop.jobs(), 0, 2));
        index("rounded(0, machines, 2)", shop -> shop.rounded(0, shop.machines(), 2));
        for (int bad : BAD_DIVISORS) {
            range("rounded(0, 0, " + bad + ")", shop -> shop.rounded(0, 0, bad));
            range("roundedTotal(" + bad + ")", shop -> shop.roundedTotal(bad));
            range("roundedUp(" + bad + ")", shop -> shop.roundedUp(bad));
        }
    }

    private static void theFirstLineOfSetDecides() {
        for (int bad : BAD_TIMES) {
            index("set(-1, 0, " + bad + ")", shop -> shop.set(-1, 0, bad));
            index("set(jobs, 0, " + bad + ")", shop -> shop.set(shop.jobs(), 0, bad));
            index("set(0, -1, " + bad + ")", shop -> shop.set(0, -1, bad));
            index("set(0, machines, " + bad + ")", shop -> shop.set(0, shop.machines(), bad));
            index("set(-1, -1, " + bad + ")", shop -> shop.set(-1, -1, bad));
            range("set(jobs - 1, machines - 1, " + bad + ")",
                    shop -> shop.set(shop.jobs() - 1, shop.machines() - 1, bad));
        }
    }

    private static void theFirstLineOfSetJobDecides() {
        for (int bad : BAD_TIMES) {
            index("setJob(-1, " + bad + ", 7)", shop -> shop.setJob(-1, bad, 7));
            index("setJob(jobs, " + bad + ", 7)", shop -> shop.setJob(shop.jobs(), bad, 7));
            index("setJob(jobs, 7, " + bad + ")", shop -> shop.setJob(shop.jobs(), 7, bad));
            index("setJob(-1, " + bad + ", " + bad + ")", shop -> shop.setJob(-1, bad, bad));
            range("setJob(jobs - 1, " + bad + ", 7)",
                    shop -> shop.setJob(shop.jobs() - 1, bad, 7));
            range("setJob(jobs - 1, 7, " + bad + ")",
                    shop -> shop.setJob(shop.jobs() - 1, 7, bad));
        }
    }

    private static void theFirstLineOfAlternateStartDecides() {
        for (int machines : new int[] {1, 3, 4, 5}) {
            String of = machines + " machines: alternateStart";
            OpenShop shop = Shops.patterned(3, machines);
            Check.noIndex(of + "(-1, 0)", () -> shop.alternateStart(-1, 0));
            Check.noIndex(of + "(3, 0)", () -> shop.alternateStart(3, 0));
            Check.noIndex(of + "(0, -1)", () -> shop.alternateStart(0, -1));
            Check.noIndex(of + "(0, machines)", () -> shop.alternateStart(0, machines));
            Check.noIndex(of + "(3, machines)", () -> shop.alternateStart(3, machines));
            Check.noState(of + "(0, 0)", () -> shop.alternateStart(0, 0));
            Check.noState(of + "(2, machines - 1)", () -> shop.alternateStart(2, machines - 1));
        }
        OpenShop two = Shops.patterned(3, 2);
        Check.answers("2 machines: alternateStart(2, 1)", () -> two.alternateStart(2, 1));
        Check.noIndex("2 machines: alternateStart(2, 2)", () -> two.alternateStart(2, 2));
        Check.noIndex("2 machines: alternateStart(3, 1)", () -> two.alternateStart(3, 1));
    }

    private static void theFirstLineOfRoundedDecides() {
        for (int bad : BAD_DIVISORS) {
            index("rounded(-1, 0, " + bad + ")", shop -> shop.rounded(-1, 0, bad));
            index("rounded(jobs, 0, " + bad + ")", shop -> shop.rounded(shop.jobs(), 0, bad));
            index("rounded(0, -1, " + bad + ")", shop -> shop.rounded(0, -1, bad));
            index("rounded(0, machines, " + bad + ")",
                    shop -> shop.rounded(0, shop.machines(), bad));
            range("rounded(jobs - 1, machines - 1, " + bad + ")",
                    shop -> shop.rounded(shop.jobs() - 1, shop.machines() - 1, bad));
        }
    }

    private static void noQuestionChangesAnything() {
        for (int[][] table : TABLES) {
            List<String> due = Answers.of(Shops.of(table));
            OpenShop asked = Shops.of(table);
            Answers.of(asked);
            Check.holds("all answers once more", Answers.of(asked).equals(due));
            OpenShop far = Shops.of(table);
            for (int time : new int[] {LOW, HIGH}) {
                far.jobAt(time, 0);
                far.done(0, 0, time);
            }
            for (int divisor = 1; divisor <= 100; divisor++) {
                far.roundedTotal(divisor);
            }
            Check.holds("all answers after far questions", Answers.of(far).equals(due));
        }
    }

    private static void index(String call, Use use) {
        for (int[][] table : TABLES) {
            refuse(table, call, Check::noIndex, use);
        }
    }

    private static void range(String call, Use use) {
        for (int[][] table : TABLES) {
            refuse(table, call, Check::noRange, use);
        }
    }

    /** On an object that has answered nothing yet, and on one whose plan has been asked for. */
    private static void refuse(int[][] table, String call, Refusal refusal, Use use) {
        List<String> due = Answers.of(Shops.of(table));
        for (boolean asked : new boolean[] {false, true}) {
            OpenShop shop = Shops.of(table);
            if (asked) {
                shop.slices();
            }
            refusal.check(call, () -> use.on(shop));
            Check.holds("all answers after " + call, Answers.of(shop).equals(due));
        }
    }
}
