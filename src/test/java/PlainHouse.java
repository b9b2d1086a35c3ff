import java.nio.ByteBuffer;
import java.time.LocalDateTime;
import java.time.ZoneOffset;
import java.util.ArrayList;
import java.util.Comparator;
import java.util.HashMap;
import java.util.HashSet;
import java.util.List;
import java.util.Map;
import java.util.NoSuchElementException;
import java.util.Optional;
import java.util.Random;
import java.util.Set;
import java.util.function.ToIntFunction;

/** The document in its plainest form, to compare random runs with. */
final class PlainHouse {
    private static final long SPAN = 1L << 40;
    private static final Map<String, PlainCron> CRONS = new HashMap<>();
    private static final Map<String, PlainZone> ZONES = new HashMap<>();

    private static final class Task {
        int number;
        int kind;
        long order;
        long starts;
        long nominal;
        long end = -1;
        long period;
        long duration;
        int priority;
        int policy;
        int fails;
        int[] cron;
        boolean stopped;

        boolean isRunning() {
            return end >= 0;
        }
    }

    private final List<Task> tasks = new ArrayList<>();
    private final PlainCron[] crons = new PlainCron[16];
    private final PlainZone[] zones = new PlainZone[8];
    private final List<Set<Integer>> calendars = new ArrayList<>();
    private final List<long[]> starts = new ArrayList<>();
    private final StringBuilder tape = new StringBuilder();
    private long place = -1;
    private long clock;
    private long made;
    private long started;
    private int workers = 4;
    private boolean closed;

    PlainHouse() {
        for (int i = 0; i < 8; i++) {
            zones[i] = new PlainZone("+0");
        }
        for (int i = 0; i < 4; i++) {
            calendars.add(new HashSet<>());
        }
    }

    long feed(int... words) {
        if (tape.length() + 20 > 400) {
            throw new IndexOutOfBoundsException();
        }
        for (int word : words) {
            for (byte b : ByteBuffer.allocate(4).putInt(word).array()) {
                tape.append((char) (b & 255));
            }
        }
        return tape.length();
    }

    long end(int n) {
        need(n >= 0 && n <= tape.length());
        tape.setLength(n);
        return n;
    }

    /** The text of the tape, if it is not broken at the place. */
    private String taken(ToIntFunction<String> broken) {
        String text = tape.toString();
        tape.setLength(0);
        place = broken.applyAsInt(text);
        if (place >= 0) {
            throw new UnsupportedOperationException();
        }
        return text;
    }

    long zone(int z) {
        need(z >= 0 && z <= 7);
        zones[z] = ZONES.computeIfAbsent(taken(PlainZone::placeOf), PlainZone::new);
        return 0;
    }

    long cron(int k) {
        need(k >= 0 && k <= 15);
        crons[k] = CRONS.computeIfAbsent(taken(PlainCron::placeOf), PlainCron::new);
        return 0;
    }

    long holiday(int c, int day, boolean yes) {
        need(c >= 0 && c <= 3 && day >= 0 && day <= 120529);
        Set<Integer> days = calendars.get(c);
        if (!yes) {
            days.remove(day);
        } else if (days.size() < 200) {
            days.add(day);
        } else if (!days.contains(day)) {
            throw new IndexOutOfBoundsException();
        }
        return days.size();
    }

    long next(int k, int z, int c, long t) {
        need(k >= 0 && k <= 15 && z >= 0 && z <= 7 && c >= -1 && c <= 3);
        need(t >= 0 && t <= Check.END_OF_TIME);
        return next(new int[] {k, z, c}, t);
    }

    long last(int k, int z, int c, long t) {
        need(k >= 0 && k <= 15 && z >= 0 && z <= 7 && c >= -1 && c <= 3);
        need(t >= 0 && t <= Check.END_OF_TIME);
        return last(new int[] {k, z, c}, t);
    }

    long local(int z, long t, int what) {
        need(z >= 0 && z <= 7 && t >= 0 && t <= Check.END_OF_TIME && what >= 0 && what <= 7);
        int minutes = zones[z].minutesAt(t);
        LocalDateTime time = LocalDateTime.ofEpochSecond(t / 1000 + minutes * 60L, 0,
                ZoneOffset.UTC);
        return new long[] {time.getSecond(), time.getMinute(), time.getHour(),
            time.getDayOfMonth(), time.getMonthValue(), time.getYear(),
            time.getDayOfWeek().getValue() % 7 + 1, minutes}[what];
    }

    /** A time of which a search is delicate in that zone. */
    long interestingTime(int z, Random random) {
        return random.nextInt(3) == 0 ? clock : zones[z].interestingTime(random);
    }

    private long next(int[] by, long t) {
        Set<Integer> holidays = by[2] < 0 ? Set.of() : calendars.get(by[2]);
        return crons[by[0]] == null ? -1 : crons[by[0]].next(zones[by[1]], holidays, t);
    }

    private long last(int[] by, long t) {
        Set<Integer> holidays = by[2] < 0 ? Set.of() : calendars.get(by[2]);
        return crons[by[0]] == null ? -1 : crons[by[0]].last(zones[by[1]], holidays, t);
    }

    private static void need(boolean holds) {
        if (!holds) {
            throw new IllegalArgumentException();
        }
    }

    long make(int kind, long delay, long period, long duration, int priority, int policy,
            int fails) {
        need(kind >= 0 && kind <= 2 && delay >= 0 && delay <= SPAN);
        need(clock + delay <= Check.END_OF_TIME);
        need(kind == 0 ? period == 0 : period >= 1 && period <= SPAN);
        need(duration >= 0 && duration <= SPAN && policy >= 0 && policy <= 2 && fails >= 0);
        Task task = new Task();
        task.kind = kind;
        task.nominal = clock + delay;
        task.period = period;
        return add(task, duration, priority, policy, fails);
    }

    long makeCron(int k, int z, int c, long duration, int priority, int policy, int fails) {
        need(k >= 0 && k <= 15 && z >= 0 && z <= 7 && c >= -1 && c <= 3);
        need(duration >= 0 && duration <= SPAN && policy >= 0 && policy <= 2 && fails >= 0);
        Task task = new Task();
        task.kind = 3;
        task.cron = new int[] {k, z, c};
        task.nominal = next(task.cron, clock);
        return add(task, duration, priority, policy, fails);
    }

    private long add(Task task, long duration, int priority, int policy, int fails) {
        if (closed) {
            throw new IllegalStateException();
        }
        if (task.nominal < 0) {
            throw new UnsupportedOperationException();
        }
        if (tasks.size() == 100) {
            throw new IndexOutOfBoundsException();
        }
        while (find(task.number).isPresent()) {
            task.number++;
        }
        task.duration = duration;
        task.priority = priority;
        task.policy = policy;
        task.fails = fails;
        task.order = made++;
        tasks.add(task);
        return task.number;
    }

    private Optional<Task> find(int j) {
        return tasks.stream().filter(task -> task.number == j).findAny();
    }

    private Task task(int j) {
        return find(j).orElseThrow(NoSuchElementException::new);
    }

    long cancel(int j) {
        Task task = task(j);
        if (task.isRunning()) {
            task.stopped = true;
            return 2;
        }
        tasks.remove(task);
        return 1;
    }

    long workers(int n) {
        need(n >= 0 && n <= 8);
        int before = workers;
        workers = n;
        return before;
    }

    private long running() {
        return tasks.stream().filter(Task::isRunning).count();
    }

    long advance(long n) {
        need(n >= 0 && n <= 1L << 43 && clock + n <= Check.END_OF_TIME);
        long target = clock + n;
        starts.clear();
        while (true) {
            for (Task task : new ArrayList<>(tasks)) {
                if (task.isRunning() && task.end <= clock) {
                    free(task);
                }
            }
            while (startOne()) {
                if (starts.size() == 500) {
                    return 500;
                }
            }
            long next = Long.MAX_VALUE;
            for (Task task : tasks) {
                long time = task.isRunning() ? task.end : task.nominal;
                next = time > clock ? Math.min(next, time) : next;
            }
            clock = Math.min(next, target);
            if (next > target) {
                return starts.size();
            }
        }
    }

    private boolean startOne() {
        if (running() >= workers) {
            return false;
        }
        Optional<Task> due = tasks.stream()
                .filter(task -> !task.isRunning() && task.nominal <= clock)
                .min(Comparator.<Task>comparingLong(task -> task.nominal)
                        .thenComparing(task -> -(long) task.priority)
                        .thenComparing(task -> task.order));
        if (due.isEmpty()) {
            return false;
        }
        Task task = due.get();
        task.starts++;
        started++;
        starts.add(new long[] {clock, task.number, task.nominal});
        task.end = clock + task.duration;
        if (task.duration == 0) {
            free(task);
        }
        return true;
    }

    private void free(Task task) {
        task.end = -1;
        boolean failed = task.fails != 0 && task.starts == task.fails;
        if (task.stopped || failed || task.kind == 0) {
            tasks.remove(task);
            return;
        }
        task.nominal = nominalBehind(task);
        if (task.nominal < 0 || task.nominal > Check.END_OF_TIME) {
            tasks.remove(task);
        }
    }

    private long nominalBehind(Task task) {
        long n = task.nominal;
        if (task.kind == 2) {
            return clock + task.period;
        }
        if (task.kind == 3) {
            long missed = last(task.cron, clock);
            boolean once = task.policy == 1 && missed > n;
            return once ? missed : next(task.cron, task.policy == 2 ? Math.max(n, clock) : n);
        }
        long next = n + task.period;
        if (task.policy != 0) {
            long over = Math.floorMod(clock - n, task.period);
            long latest = clock - over;
            next = task.policy == 2 ? latest + task.period : latest > n ? latest : next;
        }
        return next;
    }

    long stall(long n) {
        need(n >= 0 && n <= 1L << 43 && clock + n <= Check.END_OF_TIME);
        clock += n;
        return 0;
    }

    long close(boolean once, boolean periodic) {
        if (closed) {
            throw new IllegalStateException();
        }
        closed = true;
        tasks.removeIf(task -> !task.isRunning() && (task.kind == 0 ? once : periodic));
        for (Task task : tasks) {
            task.stopped |= task.isRunning() && task.kind != 0 && periodic;
        }
        return tasks.size();
    }

    long job(int j, int what) {
        need(what >= 0 && what <= 4);
        Task task = task(j);
        long state = !task.isRunning() ? 1 : task.stopped ? 3 : 2;
        return new long[] {state, task.nominal, task.starts, task.order, task.end}[what];
    }

    long start(int i, int what) {
        need(what >= 0 && what <= 2);
        if (i < 0 || i >= starts.size()) {
            throw new NoSuchElementException();
        }
        return starts.get(i)[what];
    }

    long count(int what) {
        need(what >= 0 && what <= 5);
        return new long[] {clock, tasks.size(), running(), started, tape.length(), place}[what];
    }
}
