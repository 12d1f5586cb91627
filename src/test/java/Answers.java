import java.util.ArrayList;
import java.util.List;

/** What an object answers to all questions, so that two states can be held against each other. */
final class Answers {
    private static final int[] TIMES = {-1, 0, 1, 2, 3, 5, 8, 13};
    private static final int[] DIVISORS = {1, 2, 3, 100};

    private final OpenShop shop;
    private final List<String> all = new ArrayList<>();

    private Answers(OpenShop shop) {
        this.shop = shop;
    }

    static List<String> of(OpenShop shop) {
        Answers answers = new Answers(shop);
        answers.askForTheTable();
        answers.askForTheSlices();
        answers.askForTimes();
        answers.askForDispatching();
        answers.askForRoundings();
        return answers.all;
    }

    private void add(String call, double answer) {
        all.add(call + " = " + answer);
    }

    private void askForTheTable() {
        int jobs = shop.jobs();
        int machines = shop.machines();
        add("jobs", jobs);
        add("machines", machines);
        for (int job = 0; job < jobs; job++) {
            add("jobTotal " + job, shop.jobTotal(job));
            for (int machine = 0; machine < machines; machine++) {
                add("time " + job + " " + machine, shop.time(job, machine));
            }
        }
        for (int machine = 0; machine < machines; machine++) {
            add("machineTotal " + machine, shop.machineTotal(machine));
        }
        add("total", shop.total());
        add("bound", shop.bound());
        add("boundByFlow", shop.boundByFlow());
        for (int row = 0; row < jobs + machines; row++) {
            for (int column = 0; column < jobs + machines; column++) {
                add("filled " + row + " " + column, shop.filled(row, column));
            }
        }
    }

    private void askForTheSlices() {
        int slices = shop.slices();
        int jobs = shop.jobs();
        add("slices", slices);
        for (int slice = 0; slice < slices; slice++) {
            add("sliceStart " + slice, shop.sliceStart(slice));
            add("sliceLength " + slice, shop.sliceLength(slice));
            for (int job = 0; job < jobs; job++) {
                add("machineIn " + slice + " " + job, shop.machineIn(slice, job));
            }
        }
    }

    private void askForTimes() {
        int jobs = shop.jobs();
        int machines = shop.machines();
        for (int machine = 0; machine < machines; machine++) {
            for (int time : TIMES) {
                add("jobAt " + time + " " + machine, shop.jobAt(time, machine));
                add("done 0 " + machine + " " + time, shop.done(0, machine, time));
            }
        }
        for (int job = 0; job < jobs; job++) {
            add("finishOf " + job, shop.finishOf(job));
        }
        add("interruptions", shop.interruptions());
        add("meanFinish", shop.meanFinish());
    }

    private void askForDispatching() {
        int jobs = shop.jobs();
        int machines = shop.machines();
        add("denseLength", shop.denseLength());
        if (machines == 2) {
            add("alternateLength", shop.alternateLength());
        }
        for (int job = 0; job < jobs; job++) {
            for (int machine = 0; machine < machines; machine++) {
                String at = " " + job + " " + machine;
                add("denseStart" + at, shop.denseStart(job, machine));
                if (machines == 2) {
                    add("alternateStart" + at, shop.alternateStart(job, machine));
                }
            }
        }
    }

    private void askForRoundings() {
        int jobs = shop.jobs();
        int machines = shop.machines();
        for (int divisor : DIVISORS) {
            add("roundedTotal " + divisor, shop.roundedTotal(divisor));
            add("roundedUp " + divisor, shop.roundedUp(divisor));
            for (int job = 0; job < jobs; job++) {
                for (int machine = 0; machine < machines; machine++) {
                    add("rounded " + job + " " + machine + " " + divisor,
                            shop.rounded(job, machine, divisor));
                }
            }
        }
    }
}
