/**
 * An open shop: jobs need times on machines, in any order, a job is on one machine at a time, and
 * a machine works on one job at a time.
 */
public final class OpenShop {
    public static final int NONE = -1;

    private static final int MOST_JOBS = 5;
    private static final int MOST_MACHINES = 5;
    private static final int FIRST_JOBS = 3;
    private static final int FIRST_MACHINES = 3;
    private static final int TIMES = 100;
    private static final int MOST_DIVISOR = 100;

    private final Table table = new Table();
    private final SlicedPlan plan = new SlicedPlan();
    private final DispatchedPlan dispatched = new DispatchedPlan();
    private final LengthByFlow lengthByFlow = new LengthByFlow();
    private final Rounding rounding = new Rounding();

    public OpenShop() {
    }

    // ---- the table

    public int setSize(int jobs, int machines) throws IllegalArgumentException {
        needRange(jobs, 1, MOST_JOBS);
        needRange(machines, 1, MOST_MACHINES);
        int before = table.sumOfAll();
        table.resize(jobs, machines);
        plan.forget();
        return before;
    }

    public int set(int job, int machine, int time)
            throws IndexOutOfBoundsException, IllegalArgumentException {
        needJob(job);
        needMachine(machine);
        needRange(time, 0, TIMES - 1);
        int before = table.timeOf(job, machine);
        table.putTime(job, machine, time);
        plan.forget();
        return before;
    }

    public int setJob(int job, int start, int step)
            throws IndexOutOfBoundsException, IllegalArgumentException {
        needJob(job);
        needRange(start, 0, TIMES - 1);
        needRange(step, 0, TIMES - 1);
        int time = start;
        for (int machine = 0; machine < table.machineCount(); machine++) {
            table.putTime(job, machine, time);
            time = (time + step) % TIMES;
        }
        plan.forget();
        return table.sumOfJob(job);
    }

    public int swapJobs(int job, int other) throws IndexOutOfBoundsException {
        needJob(job);
        needJob(other);
        table.swapTimes(job, other);
        plan.forget();
        return table.sumOfJob(job);
    }

    public int transpose() {
        table.turnOver();
        plan.forget();
        return table.greatestSum();
    }

    public int jobs() {
        return table.jobCount();
    }

    public int machines() {
        return table.machineCount();
    }

    public int time(int job, int machine) throws IndexOutOfBoundsException {
        needJob(job);
        needMachine(machine);
        return table.timeOf(job, machine);
    }

    public int jobTotal(int job) throws IndexOutOfBoundsException {
        needJob(job);
        return table.sumOfJob(job);
    }

    public int machineTotal(int machine) throws IndexOutOfBoundsException {
        needMachine(machine);
        return table.sumOfMachine(machine);
    }

    public int total() {
        return table.sumOfAll();
    }

    public int bound() {
        return table.greatestSum();
    }

    public int boundByFlow() {
        return lengthByFlow.least(table);
    }

    public int filled(int row, int column) throws IndexOutOfBoundsException {
        int size = table.jobCount() + table.machineCount();
        needIndex(row, size);
        needIndex(column, size);
        return table.filledEntry(row, column);
    }

    // ---- the shortest plan with interruptions

    public int slices() {
        plan.prepare(table);
        return plan.sliceCount();
    }

    public int sliceStart(int slice) throws IndexOutOfBoundsException {
        plan.prepare(table);
        needIndex(slice, plan.sliceCount());
        return plan.startOf(slice);
    }

    public int sliceLength(int slice) throws IndexOutOfBoundsException {
        plan.prepare(table);
        needIndex(slice, plan.sliceCount());
        return plan.lengthOf(slice);
    }

    public int machineIn(int slice, int job) throws IndexOutOfBoundsException {
        plan.prepare(table);
        needIndex(slice, plan.sliceCount());
        needJob(job);
        return plan.machineOf(slice, job);
    }

    public int jobAt(int time, int machine) throws IndexOutOfBoundsException {
        needMachine(machine);
        plan.prepare(table);
        return plan.jobOn(machine, time);
    }

    public int done(int job, int machine, int time) throws IndexOutOfBoundsException {
        needJob(job);
        needMachine(machine);
        plan.prepare(table);
        return plan.workedUpTo(time, job, machine);
    }

    public int finishOf(int job) throws IndexOutOfBoundsException {
        needJob(job);
        plan.prepare(table);
        return plan.lastEnd(job);
    }

    public int interruptions() {
        plan.prepare(table);
        return plan.countBreaks();
    }

    // ---- plans without interruptions

    public int denseLength() {
        dispatched.makeDense(table);
        return dispatched.lastEnd();
    }

    public int denseStart(int job, int machine) throws IndexOutOfBoundsException {
        needJob(job);
        needMachine(machine);
        dispatched.makeDense(table);
        return dispatched.beginOf(job, machine);
    }

    public int alternateLength() throws IllegalStateException {
        needTwoMachines();
        dispatched.makeAlternate(table);
        return dispatched.lastEnd();
    }

    public int alternateStart(int job, int machine)
            throws IndexOutOfBoundsException, IllegalStateException {
        needJob(job);
        needMachine(machine);
        needTwoMachines();
        dispatched.makeAlternate(table);
        return dispatched.beginOf(job, machine);
    }

    // ---- rounding

    public int rounded(int job, int machine, int divisor)
            throws IndexOutOfBoundsException, IllegalArgumentException {
        needJob(job);
        needMachine(machine);
        needRange(divisor, 1, MOST_DIVISOR);
        rounding.make(table, divisor);
        return rounding.entry(job, machine);
    }

    public int roundedTotal(int divisor) throws IllegalArgumentException {
        needRange(divisor, 1, MOST_DIVISOR);
        rounding.make(table, divisor);
        return rounding.sumOfEntries();
    }

    public int roundedUp(int divisor) throws IllegalArgumentException {
        needRange(divisor, 1, MOST_DIVISOR);
        rounding.make(table, divisor);
        return rounding.countUp();
    }

    public double meanFinish() {
        plan.prepare(table);
        int count = table.jobCount();
        int sum = 0;
        for (int job = 0; job < count; job++) {
            sum += plan.lastEnd(job);
        }
        return count < 1 ? 0.0 : (double) sum / count;
    }

    // ---- what arguments have to be

    private void needJob(int job) {
        needIndex(job, table.jobCount());
    }

    private void needMachine(int machine) {
        needIndex(machine, table.machineCount());
    }

    private void needTwoMachines() {
        if (table.machineCount() != 2) {
            throw new IllegalStateException("there are not just two machines");
        }
    }

    private static void needIndex(int index, int count) {
        if (index < 0 || index >= count) {
            throw new IndexOutOfBoundsException("no such job, machine, slice, row or column");
        }
    }

    private static void needRange(int value, int least, int most) {
        if (value < least || value > most) {
            throw new IllegalArgumentException("an argument is out of range");
        }
    }

    /**
     * Numbers in a row. Every index is looked at here and nowhere else: outside there are zeros
     * that nothing changes, so that no caller can make the machine throw.
     */
    private static final class Row {
        private final int[] cells;

        Row(int length) {
            cells = new int[Math.max(length, 0)];
        }

        int get(int index) {
            return index >= 0 && index < cells.length ? cells[index] : 0;
        }

        void put(int index, int value) {
            if (index >= 0 && index < cells.length) {
                cells[index] = value;
            }
        }

        void fill(int value) {
            for (int index = 0; index < cells.length; index++) {
                cells[index] = value;
            }
        }
    }

    /** Numbers in rows and columns, with indices looked at as in a Row. */
    private static final class Grid {
        private final int columns;
        private final int[] cells;

        Grid(int rows, int columns) {
            this.columns = columns;
            cells = new int[Math.max(rows * columns, 0)];
        }

        int get(int row, int column) {
            int index = row * columns + column;
            return row >= 0 && column >= 0 && column < columns && index >= 0 && index < cells.length
                    ? cells[index] : 0;
        }

        void put(int row, int column, int value) {
            int index = row * columns + column;
            if (row >= 0 && column >= 0 && column < columns && index >= 0 && index < cells.length) {
                cells[index] = value;
            }
        }

        void add(int row, int column, int change) {
            put(row, column, get(row, column) + change);
        }

        void fill(int value) {
            for (int index = 0; index < cells.length; index++) {
                cells[index] = value;
            }
        }
    }

    /** The times of the jobs on the machines. */
    private static final class Table {
        // Jobs and machines have the same limit, so that either can become the other.
        private static final int SIDE = MOST_JOBS;

        // Square, so that it can be turned over in place; outside the jobs and machines all is 0.
        private final Grid times = new Grid(SIDE, SIDE);
        private int jobCount = FIRST_JOBS;
        private int machineCount = FIRST_MACHINES;

        void resize(int newJobs, int newMachines) {
            jobCount = newJobs;
            machineCount = newMachines;
            times.fill(0);
        }

        int jobCount() {
            return jobCount;
        }

        int machineCount() {
            return machineCount;
        }

        int timeOf(int job, int machine) {
            return times.get(job, machine);
        }

        void putTime(int job, int machine, int time) {
            times.put(job, machine, time);
        }

        void swapTimes(int job, int other) {
            for (int machine = 0; machine < machineCount; machine++) {
                int kept = times.get(job, machine);
                times.put(job, machine, times.get(other, machine));
                times.put(other, machine, kept);
            }
        }

        void turnOver() {
            for (int row = 0; row < SIDE; row++) {
                for (int column = 0; column < row; column++) {
                    int kept = times.get(row, column);
                    times.put(row, column, times.get(column, row));
                    times.put(column, row, kept);
                }
            }
            int kept = jobCount;
            jobCount = machineCount;
            machineCount = kept;
        }

        int sumOfJob(int job) {
            int sum = 0;
            for (int machine = 0; machine < machineCount; machine++) {
                sum += times.get(job, machine);
            }
            return sum;
        }

        int sumOfMachine(int machine) {
            int sum = 0;
            for (int job = 0; job < jobCount; job++) {
                sum += times.get(job, machine);
            }
            return sum;
        }

        int sumOfAll() {
            int sum = 0;
            for (int job = 0; job < jobCount; job++) {
                sum += sumOfJob(job);
            }
            return sum;
        }

        int greatestSum() {
            int greatest = 0;
            for (int job = 0; job < jobCount; job++) {
                greatest = Math.max(greatest, sumOfJob(job));
            }
            for (int machine = 0; machine < machineCount; machine++) {
                greatest = Math.max(greatest, sumOfMachine(machine));
            }
            return greatest;
        }

        int filledEntry(int row, int column) {
            boolean jobRow = row < jobCount;
            boolean machineColumn = column < machineCount;
            int machineOfRow = row - jobCount;
            int jobOfColumn = column - machineCount;
            if (jobRow && machineColumn) {
                return times.get(row, column);
            }
            if (jobRow) {
                return row == jobOfColumn ? greatestSum() - sumOfJob(row) : 0;
            }
            if (machineColumn) {
                return machineOfRow == column ? greatestSum() - sumOfMachine(column) : 0;
            }
            return times.get(jobOfColumn, machineOfRow);
        }
    }

    /** The shortest plan with interruptions, kept until the table changes. */
    private static final class SlicedPlan {
        private static final int MOST_ROWS = MOST_JOBS + MOST_MACHINES;
        // Each slice uses up one entry above 0 at the least, and no more than these can be.
        private static final int MOST_SLICES = 2 * MOST_JOBS * MOST_MACHINES + MOST_ROWS;

        private final Grid left = new Grid(MOST_ROWS, MOST_ROWS);
        private final Row columnOfRow = new Row(MOST_ROWS);
        private final Row rowOfColumn = new Row(MOST_ROWS);
        private final Row reachedFrom = new Row(MOST_ROWS);
        private final Row queue = new Row(MOST_ROWS);
        private final Row starts = new Row(MOST_SLICES);
        private final Row lengths = new Row(MOST_SLICES);
        private final Grid machines = new Grid(MOST_SLICES, MOST_JOBS);
        private boolean ready;
        private int jobCount;
        private int machineCount;
        private int size;
        private int count;

        void forget() {
            ready = false;
        }

        void prepare(Table table) {
            if (ready) {
                return;
            }
            copyFilled(table);
            count = 0;
            int end = table.greatestSum();
            int now = 0;
            for (int slice = 0; slice < MOST_SLICES && now < end; slice++) {
                pickColumns();
                int length = takeOff();
                record(slice, now, length);
                now += length;
            }
            ready = true;
        }

        private void copyFilled(Table table) {
            jobCount = table.jobCount();
            machineCount = table.machineCount();
            size = jobCount + machineCount;
            for (int row = 0; row < size; row++) {
                for (int column = 0; column < size; column++) {
                    left.put(row, column, table.filledEntry(row, column));
                }
            }
        }

        /** Any choice of columns for all rows comes first; then row by row it is made the first. */
        private void pickColumns() {
            columnOfRow.fill(NONE);
            rowOfColumn.fill(NONE);
            for (int row = 0; row < size; row++) {
                seat(row, NONE);
            }
            for (int row = 0; row < size; row++) {
                moveForward(row);
            }
        }

        /**
         * Gives a row without a column one, by a shortest chain of rows that move on; the rows up to
         * the firm one stay. Changes nothing if there is no such chain.
         */
        private boolean seat(int row, int firm) {
            reachedFrom.fill(NONE);
            queue.put(0, row);
            int queued = 1;
            for (int next = 0; next < queued && next < size; next++) {
                int mover = queue.get(next);
                for (int column = 0; column < size; column++) {
                    int holder = rowOfColumn.get(column);
                    boolean kept = holder != NONE && holder <= firm;
                    if (kept || reachedFrom.get(column) != NONE || left.get(mover, column) <= 0) {
                        continue;
                    }
                    reachedFrom.put(column, mover);
                    if (holder == NONE) {
                        moveChain(row, column);
                        return true;
                    }
                    // A holder comes in by its own column alone, so no more than size are queued.
                    queue.put(queued, holder);
                    queued++;
                }
            }
            return false;
        }

        private void moveChain(int firstRow, int freeColumn) {
            int column = freeColumn;
            for (int moves = 0; moves < size; moves++) {
                int row = reachedFrom.get(column);
                int givenUp = columnOfRow.get(row);
                columnOfRow.put(row, column);
                rowOfColumn.put(column, row);
                if (row == firstRow) {
                    return;
                }
                column = givenUp;
            }
        }

        /** Moves a row to the first column with which the rows behind it still find theirs. */
        private void moveForward(int row) {
            int old = columnOfRow.get(row);
            for (int column = 0; column < old; column++) {
                int holder = rowOfColumn.get(column);
                if (holder <= row || left.get(row, column) <= 0) {
                    continue;
                }
                rowOfColumn.put(old, NONE);
                rowOfColumn.put(column, row);
                columnOfRow.put(row, column);
                columnOfRow.put(holder, NONE);
                if (seat(holder, row)) {
                    return;
                }
                rowOfColumn.put(old, row);
                rowOfColumn.put(column, holder);
                columnOfRow.put(row, old);
                columnOfRow.put(holder, column);
            }
        }

        private int takeOff() {
            int least = left.get(0, columnOfRow.get(0));
            for (int row = 1; row < size; row++) {
                least = Math.min(least, left.get(row, columnOfRow.get(row)));
            }
            for (int row = 0; row < size; row++) {
                left.add(row, columnOfRow.get(row), -least);
            }
            return least;
        }

        private void record(int slice, int start, int length) {
            starts.put(slice, start);
            lengths.put(slice, length);
            for (int job = 0; job < jobCount; job++) {
                int column = columnOfRow.get(job);
                machines.put(slice, job, column < machineCount ? column : NONE);
            }
            count = slice + 1;
        }

        int sliceCount() {
            return count;
        }

        int startOf(int slice) {
            return starts.get(slice);
        }

        int lengthOf(int slice) {
            return lengths.get(slice);
        }

        int machineOf(int slice, int job) {
            return machines.get(slice, job);
        }

        int jobOn(int machine, int time) {
            for (int slice = 0; slice < count; slice++) {
                int start = starts.get(slice);
                if (start <= time && time < start + lengths.get(slice)) {
                    return jobInSlice(slice, machine);
                }
            }
            return NONE;
        }

        private int jobInSlice(int slice, int machine) {
            for (int job = 0; job < jobCount; job++) {
                if (machines.get(slice, job) == machine) {
                    return job;
                }
            }
            return NONE;
        }

        int workedUpTo(int time, int job, int machine) {
            int sum = 0;
            for (int slice = 0; slice < count; slice++) {
                int start = starts.get(slice);
                // Compared first, because a time far below 0 less a start would wrap around.
                if (machines.get(slice, job) == machine && time > start) {
                    sum += Math.min(time - start, lengths.get(slice));
                }
            }
            return sum;
        }

        int lastEnd(int job) {
            for (int slice = count - 1; slice >= 0; slice--) {
                if (machines.get(slice, job) != NONE) {
                    return starts.get(slice) + lengths.get(slice);
                }
            }
            return 0;
        }

        int countBreaks() {
            int breaks = 0;
            for (int slice = 0; slice < count; slice++) {
                for (int job = 0; job < jobCount; job++) {
                    if (isBroken(slice, job)) {
                        breaks++;
                    }
                }
            }
            return breaks;
        }

        private boolean isBroken(int slice, int job) {
            int machine = machines.get(slice, job);
            if (machine == NONE || slice + 1 >= count || machines.get(slice + 1, job) == machine) {
                return false;
            }
            for (int later = slice + 2; later < count; later++) {
                if (machines.get(later, job) == machine) {
                    return true;
                }
            }
            return false;
        }
    }

    /** A plan without interruptions, made by one of the two rules of dispatching. */
    private static final class DispatchedPlan {
        private static final int MOST_OPERATIONS = MOST_JOBS * MOST_MACHINES;

        private final Grid begins = new Grid(MOST_JOBS, MOST_MACHINES);
        private final Row jobFreeFrom = new Row(MOST_JOBS);
        private final Row machineFreeFrom = new Row(MOST_MACHINES);

        void makeDense(Table table) {
            dispatch(table, false);
        }

        void makeAlternate(Table table) {
            dispatch(table, true);
        }

        private void dispatch(Table table, boolean alternate) {
            begins.fill(NONE);
            jobFreeFrom.fill(0);
            machineFreeFrom.fill(0);
            int now = 0;
            // At each time but the first an operation ends, so no more times than this are needed.
            for (int times = 0; times <= MOST_OPERATIONS && now != NONE; times++) {
                for (int machine = 0; machine < table.machineCount(); machine++) {
                    if (machineFreeFrom.get(machine) <= now) {
                        beginOn(machine, now, chooseJob(table, machine, now, alternate), table);
                    }
                }
                now = nextEnd(now);
            }
        }

        private int chooseJob(Table table, int machine, int now, boolean alternate) {
            int chosen = NONE;
            int heaviest = -1;
            for (int job = 0; job < table.jobCount(); job++) {
                if (jobFreeFrom.get(job) > now || waiting(table, job, machine) == 0) {
                    continue;
                }
                // With equal weights the first job stays, which is all that the dense rule asks.
                int weight = alternate ? waiting(table, job, 1 - machine) : 0;
                if (weight > heaviest) {
                    heaviest = weight;
                    chosen = job;
                }
            }
            return chosen;
        }

        private int waiting(Table table, int job, int machine) {
            return begins.get(job, machine) == NONE ? table.timeOf(job, machine) : 0;
        }

        private void beginOn(int machine, int now, int job, Table table) {
            if (job == NONE) {
                return;
            }
            int end = now + table.timeOf(job, machine);
            begins.put(job, machine, now);
            jobFreeFrom.put(job, end);
            machineFreeFrom.put(machine, end);
        }

        private int nextEnd(int now) {
            int next = NONE;
            for (int machine = 0; machine < MOST_MACHINES; machine++) {
                int end = machineFreeFrom.get(machine);
                if (end > now && (next == NONE || end < next)) {
                    next = end;
                }
            }
            return next;
        }

        int beginOf(int job, int machine) {
            return begins.get(job, machine);
        }

        int lastEnd() {
            int last = 0;
            for (int machine = 0; machine < MOST_MACHINES; machine++) {
                last = Math.max(last, machineFreeFrom.get(machine));
            }
            return last;
        }
    }

    /**
     * A network of nodes with the room that is still open between each two. What is pushed from one
     * node to another opens as much room back. No two nodes have edges in both directions.
     */
    private static final class Network {
        // The jobs, the machines, a source and a sink, and a giver and a taker for least flows.
        private static final int MOST_NODES = MOST_JOBS + MOST_MACHINES + 4;

        private final Grid room = new Grid(MOST_NODES, MOST_NODES);
        private final Row reachedFrom = new Row(MOST_NODES);
        private final Row queue = new Row(MOST_NODES);
        private int nodes;

        void clear(int nodeCount) {
            nodes = Math.min(nodeCount, MOST_NODES);
            room.fill(0);
        }

        void widen(int from, int to, int amount) {
            room.add(from, to, amount);
        }

        int roomBetween(int from, int to) {
            return room.get(from, to);
        }

        void shut(int from, int to) {
            room.put(from, to, 0);
            room.put(to, from, 0);
        }

        /** Tells how much of the amount gets through. */
        int push(int from, int to, int amount) {
            int sent = 0;
            // Each path carries 1 or more, so as many paths as the amount are enough.
            for (int paths = 0; paths < amount && sent < amount; paths++) {
                if (!search(from, to)) {
                    return sent;
                }
                sent += sendAlong(from, to, amount - sent);
            }
            return sent;
        }

        private boolean search(int from, int to) {
            reachedFrom.fill(NONE);
            reachedFrom.put(from, from);
            queue.put(0, from);
            int queued = 1;
            for (int next = 0; next < queued && next < nodes; next++) {
                int node = queue.get(next);
                for (int other = 0; other < nodes; other++) {
                    if (reachedFrom.get(other) != NONE || room.get(node, other) <= 0) {
                        continue;
                    }
                    reachedFrom.put(other, node);
                    if (other == to) {
                        return true;
                    }
                    // A node is queued once, when it is reached, so no more than nodes are queued.
                    queue.put(queued, other);
                    queued++;
                }
            }
            return false;
        }

        private int sendAlong(int from, int to, int amount) {
            int sent = amount;
            int node = to;
            for (int steps = 0; steps < nodes && node != from; steps++) {
                int before = reachedFrom.get(node);
                sent = Math.min(sent, room.get(before, node));
                node = before;
            }
            node = to;
            for (int steps = 0; steps < nodes && node != from; steps++) {
                int before = reachedFrom.get(node);
                room.add(before, node, -sent);
                room.add(node, before, sent);
                node = before;
            }
            return sent;
        }
    }

    /** The bound, found by flows from a source through jobs and machines to a sink. */
    private static final class LengthByFlow {
        private static final int SOURCE = 0;
        private static final int FIRST_JOB = 1;
        // An int's range is halved away in no more turns than this.
        private static final int HALVINGS = 32;

        private final Network network = new Network();

        int least(Table table) {
            int total = table.sumOfAll();
            int low = 0;
            int high = total;
            for (int turn = 0; turn < HALVINGS && low < high; turn++) {
                int middle = low + (high - low) / 2;
                if (carriesAll(table, middle, total)) {
                    high = middle;
                } else {
                    low = middle + 1;
                }
            }
            return low;
        }

        private boolean carriesAll(Table table, int length, int total) {
            int firstMachine = FIRST_JOB + table.jobCount();
            int sink = firstMachine + table.machineCount();
            network.clear(sink + 1);
            for (int job = 0; job < table.jobCount(); job++) {
                network.widen(SOURCE, FIRST_JOB + job, length);
                for (int machine = 0; machine < table.machineCount(); machine++) {
                    network.widen(FIRST_JOB + job, firstMachine + machine,
                            table.timeOf(job, machine));
                }
            }
            for (int machine = 0; machine < table.machineCount(); machine++) {
                network.widen(firstMachine + machine, sink, length);
            }
            return network.push(SOURCE, sink, total) == total;
        }
    }

    /**
     * The rounding of the table. An entry that is rounded up is one unit of a flow from its job to
     * its machine, and the sums bound how many units each job and each machine has, and all.
     */
    private static final class Rounding {
        private static final int SOURCE = 0;
        private static final int FIRST_JOB = 1;

        private final Network network = new Network();
        private final Grid downs = new Grid(MOST_JOBS, MOST_MACHINES);
        private final Grid ups = new Grid(MOST_JOBS, MOST_MACHINES);
        private int firstMachine;
        private int sink;
        private int giver;
        private int taker;
        private int leastFlows;

        void make(Table table, int divisor) {
            roundDown(table, divisor);
            layOut(table);
            openEntries(table, divisor);
            boundSums(table, divisor);
            network.push(giver, taker, leastFlows);
            for (int job = 0; job < table.jobCount(); job++) {
                for (int machine = 0; machine < table.machineCount(); machine++) {
                    ups.put(job, machine, settle(FIRST_JOB + job, firstMachine + machine));
                }
            }
        }

        private void roundDown(Table table, int divisor) {
            downs.fill(0);
            ups.fill(0);
            for (int job = 0; job < table.jobCount(); job++) {
                for (int machine = 0; machine < table.machineCount(); machine++) {
                    downs.put(job, machine, quotient(table.timeOf(job, machine), divisor));
                }
            }
        }

        private void layOut(Table table) {
            firstMachine = FIRST_JOB + table.jobCount();
            sink = firstMachine + table.machineCount();
            giver = sink + 1;
            taker = sink + 2;
            leastFlows = 0;
            network.clear(taker + 1);
        }

        private void openEntries(Table table, int divisor) {
            for (int job = 0; job < table.jobCount(); job++) {
                for (int machine = 0; machine < table.machineCount(); machine++) {
                    boolean whole = downs.get(job, machine) * divisor == table.timeOf(job, machine);
                    network.widen(FIRST_JOB + job, firstMachine + machine, whole ? 0 : 1);
                }
            }
        }

        private void boundSums(Table table, int divisor) {
            int allDown = 0;
            for (int job = 0; job < table.jobCount(); job++) {
                int down = 0;
                for (int machine = 0; machine < table.machineCount(); machine++) {
                    down += downs.get(job, machine);
                }
                allDown += down;
                boundEdge(SOURCE, FIRST_JOB + job, table.sumOfJob(job), down, divisor);
            }
            for (int machine = 0; machine < table.machineCount(); machine++) {
                int down = 0;
                for (int job = 0; job < table.jobCount(); job++) {
                    down += downs.get(job, machine);
                }
                boundEdge(firstMachine + machine, sink, table.sumOfMachine(machine), down, divisor);
            }
            boundEdge(sink, SOURCE, table.sumOfAll(), allDown, divisor);
        }

        /**
         * What an edge has to carry at the least goes round by the giver and the taker: when all of
         * that gets through, every edge has its least flow.
         */
        private void boundEdge(int from, int to, int sum, int down, int divisor) {
            int least = quotient(sum, divisor) - down;
            int most = quotient(sum + divisor - 1, divisor) - down;
            network.widen(from, to, most - least);
            network.widen(giver, to, least);
            network.widen(from, taker, least);
            leastFlows += least;
        }

        /** Takes an entry's unit another way if there is one, and lets the entry stay so then. */
        private int settle(int jobNode, int machineNode) {
            int unit = network.roomBetween(machineNode, jobNode);
            network.shut(jobNode, machineNode);
            return unit - network.push(jobNode, machineNode, unit);
        }

        private static int quotient(int value, int divisor) {
            return divisor < 1 ? 0 : value / divisor;
        }

        int entry(int job, int machine) {
            return downs.get(job, machine) + ups.get(job, machine);
        }

        int sumOfEntries() {
            int sum = 0;
            for (int job = 0; job < MOST_JOBS; job++) {
                for (int machine = 0; machine < MOST_MACHINES; machine++) {
                    sum += entry(job, machine);
                }
            }
            return sum;
        }

        int countUp() {
            int count = 0;
            for (int job = 0; job < MOST_JOBS; job++) {
                for (int machine = 0; machine < MOST_MACHINES; machine++) {
                    count += ups.get(job, machine);
                }
            }
            return count;
        }
    }
}
