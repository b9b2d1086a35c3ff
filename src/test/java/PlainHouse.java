import java.util.ArrayList;
import java.util.Comparator;
import java.util.HashMap;
import java.util.HashSet;
import java.util.List;
import java.util.Map;
import java.util.NoSuchElementException;
import java.util.Optional;
import java.util.Set;

/** The jobs of the document in their plainest form, to compare random runs with. */
final class PlainHouse {
    private static final long SPAN = 1L << 40;
    private static final Map<String, PlainCron> CRONS = new HashMap<>();

    private static final class Task {
        int number;
        int kind;
        long order;
        long starts;
        long nominal;
        long end = -1;
        long period;
        long duration;
        int priority;
        int policy;
        int fails;
        int[] cron;
        boolean stopped;

        boolean isRunning() {
            return end >= 0;
        }
    }

    private final List<Task> tasks = new ArrayList<>();
    private final PlainCron[] crons = new PlainCron[16];
    private final PlainZone[] zones = new PlainZone[8];
    private final List<Set<Integer>> calendars = new ArrayList<>();
    private final List<long[]> starts = new ArrayList<>();
    private long clock;
    private long made;
    private long started;
    private int workers = 4;
    private boolean closed;

    PlainHouse() {
        for (int i = 0; i < 8; i++) {
            zones[i] = new PlainZone("+0");
        }
        for (int i = 0; i < 4; i++) {
            calendars.add(new HashSet<>());
        }
    }

    void zone(int z, String text) {
        zones[z] = new PlainZone(text);
    }

    void cron(int k, String text) {
        crons[k] = CRONS.computeIfAbsent(text, PlainCron::new);
    }

    void holiday(int c, int day, boolean yes) {
        if (yes) {
            calendars.get(c).add(day);
        } else {
            calendars.get(c).remove(day);
        }
    }

    private long next(int[] by, long t) {
        Set<Integer> holidays = by[2] < 0 ? Set.of() : calendars.get(by[2]);
        return crons[by[0]] == null ? -1 : crons[by[0]].next(zones[by[1]], holidays, t);
    }

    private long last(int[] by, long t) {
        Set<Integer> holidays = by[2] < 0 ? Set.of() : calendars.get(by[2]);
        return crons[by[0]] == null ? -1 : crons[by[0]].last(zones[by[1]], holidays, t);
    }

    private static void need(boolean holds) {
        if (!holds) {
            throw new IllegalArgumentException();
        }
    }

    long make(int kind, long delay, long period, long duration, int priority, int policy,
            int fails) {
        need(kind >= 0 && kind <= 2 && delay >= 0 && delay <= SPAN);
        need(clock + delay <= Check.END_OF_TIME);
        need(kind == 0 ? period == 0 : period >= 1 && period <= SPAN);
        need(duration >= 0 && duration <= SPAN && policy >= 0 && policy <= 2 && fails >= 0);
        Task task = new Task();
        task.kind = kind;
        task.nominal = clock + delay;
        task.period = period;
        return add(task, duration, priority, policy, fails);
    }

    long makeCron(int k, int z, int c, long duration, int priority, int policy, int fails) {
        need(k >= 0 && k <= 15 && z >= 0 && z <= 7 && c >= -1 && c <= 3);
        need(duration >= 0 && duration <= SPAN && policy >= 0 && policy <= 2 && fails >= 0);
        Task task = new Task();
        task.kind = 3;
        task.cron = new int[] {k, z, c};
        task.nominal = next(task.cron, clock);
        return add(task, duration, priority, policy, fails);
    }

    private long add(Task task, long duration, int priority, int policy, int fails) {
        if (closed) {
            throw new IllegalStateException();
        }
        if (task.nominal < 0) {
            throw new UnsupportedOperationException();
        }
        if (tasks.size() == 100) {
            throw new IndexOutOfBoundsException();
        }
        while (find(task.number).isPresent()) {
            task.number++;
        }
        task.duration = duration;
        task.priority = priority;
        task.policy = policy;
        task.fails = fails;
        task.order = made++;
        tasks.add(task);
        return task.number;
    }

    private Optional<Task> find(int j) {
        return tasks.stream().filter(task -> task.number == j).findAny();
    }

    private Task task(int j) {
        return find(j).orElseThrow(NoSuchElementException::new);
    }

    long cancel(int j) {
        Task task = task(j);
        if (task.isRunning()) {
            task.stopped = true;
            return 2;
        }
        tasks.remove(task);
        return 1;
    }

    long workers(int n) {
        need(n >= 0 && n <= 8);
        int before = workers;
        workers = n;
        return before;
    }

    private long running() {
        return tasks.stream().filter(Task::isRunning).count();
    }

    long advance(long n) {
        need(n >= 0 && n <= 1L << 43 && clock + n <= Check.END_OF_TIME);
        long target = clock + n;
        starts.clear();
        while (true) {
            for (Task task : new ArrayList<>(tasks)) {
                if (task.isRunning() && task.end <= clock) {
                    free(task);
                }
            }
            while (startOne()) {
                if (starts.size() == 500) {
                    return 500;
                }
            }
            long next = Long.MAX_VALUE;
            for (Task task : tasks) {
                long time = task.isRunning() ? task.end : task.nominal;
                next = time > clock ? Math.min(next, time) : next;
            }
            clock = Math.min(next, target);
            if (next > target) {
                return starts.size();
            }
        }
    }

    private boolean startOne() {
        if (running() >= workers) {
            return false;
        }
        Optional<Task> due = tasks.stream()
                .filter(task -> !task.isRunning() && task.nominal <= clock)
                .min(Comparator.<Task>comparingLong(task -> task.nominal)
                        .thenComparing(task -> -(long) task.priority)
                        .thenComparing(task -> task.order));
        if (due.isEmpty()) {
            return false;
        }
        Task task = due.get();
        task.starts++;
        started++;
        starts.add(new long[] {clock, task.number, task.nominal});
        task.end = clock + task.duration;
        if (task.duration == 0) {
            free(task);
        }
        return true;
    }

    private void free(Task task) {
        task.end = -1;
        boolean failed = task.fails != 0 && task.starts == task.fails;
        if (task.stopped || failed || task.kind == 0) {
            tasks.remove(task);
            return;
        }
        task.nominal = nominalBehind(task);
        if (task.nominal < 0 || task.nominal > Check.END_OF_TIME) {
            tasks.remove(task);
        }
    }

    private long nominalBehind(Task task) {
        long n = task.nominal;
        if (task.kind == 2) {
            return clock + task.period;
        }
        if (task.kind == 3) {
            long missed = last(task.cron, clock);
            boolean once = task.policy == 1 && missed > n;
            return once ? missed : next(task.cron, task.policy == 2 ? Math.max(n, clock) : n);
        }
        long next = n + task.period;
        if (task.policy != 0) {
            long over = Math.floorMod(clock - n, task.period);
            long latest = clock - over;
            next = task.policy == 2 ? latest + task.period : latest > n ? latest : next;
        }
        return next;
    }

    long stall(long n) {
        need(n >= 0 && n <= 1L << 43 && clock + n <= Check.END_OF_TIME);
        clock += n;
        return 0;
    }

    long close(boolean once, boolean periodic) {
        if (closed) {
            throw new IllegalStateException();
        }
        closed = true;
        tasks.removeIf(task -> !task.isRunning() && (task.kind == 0 ? once : periodic));
        for (Task task : tasks) {
            task.stopped |= task.isRunning() && task.kind != 0 && periodic;
        }
        return tasks.size();
    }

    long job(int j, int what) {
        need(what >= 0 && what <= 4);
        Task task = task(j);
        long state = !task.isRunning() ? 1 : task.stopped ? 3 : 2;
        return new long[] {state, task.nominal, task.starts, task.order, task.end}[what];
    }

    long start(int i, int what) {
        need(what >= 0 && what <= 2);
        if (i < 0 || i >= starts.size()) {
            throw new NoSuchElementException();
        }
        return starts.get(i)[what];
    }

    long count(int what) {
        need(what >= 0 && what <= 3);
        return new long[] {clock, tasks.size(), running(), started}[what];
    }
}
