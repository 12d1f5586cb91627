import java.util.ArrayList;
import java.util.List;

/** The document's rules once more, in ways of their own: by trying out, and by ticks of time. */
final class Reference {
    private Reference() {
    }

    static int bound(int[][] times) {
        int bound = 0;
        for (int[] row : times) {
            int sum = 0;
            for (int time : row) {
                sum += time;
            }
            bound = Math.max(bound, sum);
        }
        for (int machine = 0; machine < times[0].length; machine++) {
            int sum = 0;
            for (int[] row : times) {
                sum += row[machine];
            }
            bound = Math.max(bound, sum);
        }
        return bound;
    }

    static int[][] filled(int[][] times) {
        int jobs = times.length;
        int machines = times[0].length;
        int bound = bound(times);
        int[][] filled = new int[jobs + machines][jobs + machines];
        for (int job = 0; job < jobs; job++) {
            filled[job][machines + job] = bound;
        }
        for (int machine = 0; machine < machines; machine++) {
            filled[jobs + machine][machine] = bound;
        }
        for (int job = 0; job < jobs; job++) {
            for (int machine = 0; machine < machines; machine++) {
                int time = times[job][machine];
                filled[job][machine] = time;
                filled[jobs + machine][machines + job] = time;
                filled[job][machines + job] -= time;
                filled[jobs + machine][machine] -= time;
            }
        }
        return filled;
    }

    /** Each slice as its length followed by the columns of all rows. */
    static List<int[]> slices(int[][] times) {
        int[][] left = filled(times);
        int size = left.length;
        List<int[]> slices = new ArrayList<>();
        for (int ahead = bound(times); ahead > 0; ) {
            int[] slice = new int[size + 1];
            if (!choose(left, 0, new boolean[size], slice)) {
                throw new AssertionError("no slice is left");
            }
            slice[0] = Integer.MAX_VALUE;
            for (int row = 0; row < size; row++) {
                slice[0] = Math.min(slice[0], left[row][slice[row + 1]]);
            }
            for (int row = 0; row < size; row++) {
                left[row][slice[row + 1]] -= slice[0];
            }
            ahead -= slice[0];
            slices.add(slice);
        }
        return slices;
    }

    private static boolean choose(int[][] left, int row, boolean[] used, int[] slice) {
        if (row == left.length) {
            return true;
        }
        for (int column = 0; column < left.length; column++) {
            if (left[row][column] > 0 && !used[column]) {
                used[column] = true;
                slice[row + 1] = column;
                if (choose(left, row + 1, used, slice)) {
                    return true;
                }
                used[column] = false;
            }
        }
        return false;
    }

    /** Who is on each machine in each unit of time: the starts of all operations. */
    static int[][] dispatch(int[][] times, boolean alternate) {
        int jobs = times.length;
        int machines = times[0].length;
        int[][] starts = new int[jobs][machines];
        int[] jobOn = new int[machines];
        int[] left = new int[machines];
        boolean[] busy = new boolean[jobs];
        int open = 0;
        for (int job = 0; job < jobs; job++) {
            for (int machine = 0; machine < machines; machine++) {
                starts[job][machine] = OpenShop.NONE;
                open += times[job][machine] > 0 ? 1 : 0;
            }
        }
        // A machine begins only at 0 and at times at which operations end; between these nothing
        // gets free, so that asking at every unit of time starts the same.
        for (int now = 0; open > 0; now++) {
            for (int machine = 0; machine < machines; machine++) {
                if (left[machine] > 0 && --left[machine] == 0) {
                    busy[jobOn[machine]] = false;
                }
            }
            for (int machine = 0; machine < machines; machine++) {
                int job = left[machine] > 0 ? OpenShop.NONE
                        : pick(times, starts, busy, machine, alternate);
                if (job != OpenShop.NONE) {
                    starts[job][machine] = now;
                    left[machine] = times[job][machine];
                    jobOn[machine] = job;
                    busy[job] = true;
                    open--;
                }
            }
        }
        return starts;
    }

    private static int pick(int[][] times, int[][] starts, boolean[] busy, int machine,
            boolean alternate) {
        List<Integer> ready = new ArrayList<>();
        for (int job = 0; job < times.length; job++) {
            if (!busy[job] && times[job][machine] > 0 && starts[job][machine] < 0) {
                ready.add(job);
            }
        }
        if (ready.isEmpty()) {
            return OpenShop.NONE;
        }
        if (alternate) {
            int other = machine == 0 ? 1 : 0;
            ready.sort((a, b) -> ahead(times, starts, b, other) - ahead(times, starts, a, other));
        }
        return ready.get(0);
    }

    private static int ahead(int[][] times, int[][] starts, int job, int machine) {
        return starts[job][machine] >= 0 ? 0 : times[job][machine];
    }

    static int length(int[][] times, int[][] starts) {
        int length = 0;
        for (int job = 0; job < times.length; job++) {
            for (int machine = 0; machine < times[0].length; machine++) {
                if (times[job][machine] > 0) {
                    length = Math.max(length, starts[job][machine] + times[job][machine]);
                }
            }
        }
        return length;
    }

    /** The first of all roundings, entry by entry, tried in their order. */
    static int[][] rounding(int[][] times, int divisor) {
        int[][] entries = new int[times.length][times[0].length];
        if (!round(times, divisor, 0, entries)) {
            throw new AssertionError("there is no rounding");
        }
        return entries;
    }

    private static boolean round(int[][] times, int divisor, int place, int[][] entries) {
        int machines = times[0].length;
        int job = place / machines;
        int machine = place % machines;
        if (machine == 0 && job > 0 && !fits(times, divisor, entries, job - 1, job, 0, machines)) {
            return false;
        }
        if (job == times.length) {
            for (int each = 0; each < machines; each++) {
                if (!fits(times, divisor, entries, 0, job, each, each + 1)) {
                    return false;
                }
            }
            return fits(times, divisor, entries, 0, job, 0, machines);
        }
        int down = times[job][machine] / divisor;
        int up = times[job][machine] % divisor == 0 ? down : down + 1;
        for (int entry = down; entry <= up; entry++) {
            entries[job][machine] = entry;
            if (round(times, divisor, place + 1, entries)) {
                return true;
            }
        }
        return false;
    }

    /** Whether the entries of some jobs and machines sum up to their sum's quotient, rounded. */
    private static boolean fits(int[][] times, int divisor, int[][] entries, int fromJob, int toJob,
            int fromMachine, int toMachine) {
        int sum = 0;
        int rounded = 0;
        for (int job = fromJob; job < toJob; job++) {
            for (int machine = fromMachine; machine < toMachine; machine++) {
                sum += times[job][machine];
                rounded += entries[job][machine];
            }
        }
        // Less than one away from the quotient, on either side.
        return Math.abs(rounded * divisor - sum) < divisor;
    }
}
