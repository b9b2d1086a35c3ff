import java.nio.ByteBuffer;
import java.nio.charset.StandardCharsets;
import java.util.Arrays;
import java.util.Random;
import java.util.function.LongSupplier;

/** Random runs of calls on a JobHouse and on the plainest form of it: all answers agree. */
final class RandomRunsTest {
    private static final int GOOD_CRONS = 10;
    private static final String[] CRONS = withSpoilt("* * * * * ?", "*/7 * * * * ?",
            "0 */5 * * * ?", "0 30 2 * * ?", "0 0 0 L * ?", "30 0,30 1-3 ? * SUN,MON",
            "0 0 12 1W * ?", "0 0 0 ? * 2#1", "0 0 3 * * ? 1970-1975", "5/10 59 23 * * ?");
    private static final String[] ZONES = {"+0", "+60 60 M3.5.0/120 M10.5.0/180", "-300",
        "-300 60 M3.2.0/120 M11.1.0/120", "+840", "+630 30 M10.1.0/120 M4.1.0/120"};
    /** What later calls answer is free. */
    private static final int MOST_CALLS = 512;
    private static final long[] SPANS = {0, 1, 2, 5, 10, 100, 1000, 60000, 3600000, 86400000};

    private final Random random;
    private final JobHouse house = new JobHouse();
    private final PlainHouse plain = new PlainHouse();
    private final boolean tight;
    private final StringBuilder told = new StringBuilder();
    private int calls;

    private RandomRunsTest(long seed) {
        random = new Random(seed);
        tight = random.nextInt(3) != 0;
        told.append("run ").append(seed);
    }

    public static void main(String[] args) {
        int runs = args.length > 0 ? Integer.parseInt(args[0]) : 800;
        for (int seed = 0; seed < runs; seed++) {
            new RandomRunsTest(seed).run();
        }
        Check.finish();
    }

    /** The good texts first; of spoilt ones not too many, as some are good and slow to look at. */
    private static String[] withSpoilt(String... good) {
        String[] texts = Arrays.copyOf(good, 20 * GOOD_CRONS);
        Random random = new Random(1);
        for (int i = GOOD_CRONS; i < texts.length; i++) {
            texts[i] = RandomCron.spoilt(random, good[i % GOOD_CRONS]);
        }
        return texts;
    }

    private void run() {
        int steps = 20 + random.nextInt(100);
        for (int i = 0; i < steps && calls < 380; i++) {
            step();
            lookAtSome();
        }
        while (calls < MOST_CALLS - 3) {
            lookAtOne();
        }
    }

    private void agree(String call, LongSupplier got, LongSupplier due) {
        String want = answer(due);
        String have = answer(got);
        calls++;
        Check.is(call, want.equals(have) ? 1 : 0, 1);
        if (!want.equals(have)) {
            System.out.println(told + "; " + call + " answered " + have + ", due is " + want);
            Check.finish();
        }
    }

    private void change(String call, LongSupplier got, LongSupplier due) {
        agree(call, got, due);
        told.append("; ").append(call);
    }

    private static String answer(LongSupplier call) {
        try {
            return "" + call.getAsLong();
        } catch (RuntimeException e) {
            return e.getClass().getSimpleName();
        }
    }

    private long span() {
        long most = SPANS[random.nextInt(tight ? 7 : SPANS.length)];
        return random.nextInt(25) == 0 ? -1 : (long) (random.nextDouble() * (most + 1));
    }

    private int number(int low, int high) {
        return random.nextInt(25) == 0 ? low - 1 + random.nextInt(2) * (high - low + 2)
                : low + random.nextInt(high - low + 1);
    }

    private void step() {
        int kind = random.nextInt(20);
        if (kind < 5) {
            make();
        } else if (kind < 8) {
            makeCron();
        } else if (kind < 13) {
            long n = random.nextInt(300) == 0 ? 1L << 43 : span();
            change("advance(" + n + ")", () -> house.advance(n), () -> plain.advance(n));
        } else if (kind < 15) {
            long n = random.nextInt(200) == 0 ? 1L << 43 : span();
            change("stall(" + n + ")", () -> {
                house.stall(n);
                return 0;
            }, () -> plain.stall(n));
        } else if (kind == 15) {
            int j = random.nextInt(6) == 0 ? number(0, 99) : random.nextInt(8);
            change("cancel(" + j + ")", () -> house.cancel(j), () -> plain.cancel(j));
        } else if (kind == 16) {
            int n = number(0, 8);
            change("workers(" + n + ")", () -> house.workers(n), () -> plain.workers(n));
        } else if (kind == 17 && random.nextInt(6) == 0) {
            boolean once = random.nextBoolean();
            boolean periodic = random.nextBoolean();
            change("close(" + once + ", " + periodic + ")", () -> house.close(once, periodic),
                    () -> plain.close(once, periodic));
        } else {
            tellSomething();
        }
    }

    private void make() {
        int kind = number(0, 2);
        long delay = span();
        long period = kind == 0 && random.nextInt(20) != 0 ? 0 : span();
        long duration = random.nextInt(3) == 0 ? 0 : span();
        int priority = random.nextInt(10) == 0 ? random.nextInt() : random.nextInt(3);
        int policy = number(0, 2);
        int fails = random.nextInt(4) == 0 ? number(0, 5) : 0;
        change("make(" + kind + ", " + delay + ", " + period + ", " + duration + ", " + priority
                + ", " + policy + ", " + fails + ")",
                () -> house.make(kind, delay, period, duration, priority, policy, fails),
                () -> plain.make(kind, delay, period, duration, priority, policy, fails));
    }

    private void makeCron() {
        int k = number(0, 15) % 5;
        int z = number(0, 7) % 4;
        int c = number(-1, 3);
        long duration = random.nextInt(3) == 0 ? 0 : span();
        int priority = random.nextInt(3);
        int policy = number(0, 2);
        int fails = random.nextInt(4) == 0 ? number(0, 5) : 0;
        change("makeCron(" + k + ", " + z + ", " + c + ", " + duration + ", " + priority + ", "
                + policy + ", " + fails + ")",
                () -> house.makeCron(k, z, c, duration, priority, policy, fails),
                () -> plain.makeCron(k, z, c, duration, priority, policy, fails));
    }

    private void tellSomething() {
        int kind = random.nextInt(9);
        if (kind < 3) {
            int k = random.nextInt(20) == 0 ? number(0, 15) : random.nextInt(4);
            feed(CRONS[random.nextInt(random.nextInt(3) == 0 ? CRONS.length : GOOD_CRONS)]);
            change("cron(" + k + ")", () -> {
                house.cron(k);
                return 0;
            }, () -> plain.cron(k));
        } else if (kind < 5) {
            int z = random.nextInt(20) == 0 ? number(0, 7) : random.nextInt(4);
            String text = ZONES[random.nextInt(ZONES.length)];
            feed(random.nextInt(4) == 0 ? RandomCron.spoilt(random, text) : text);
            change("zone(" + z + ")", () -> {
                house.zone(z);
                return 0;
            }, () -> plain.zone(z));
        } else if (kind < 8) {
            int c = number(0, 3);
            int day = random.nextInt(12) == 0 ? number(0, 120529) : random.nextInt(5);
            boolean yes = random.nextBoolean();
            change("holiday(" + c + ", " + day + ", " + yes + ")",
                    () -> house.holiday(c, day, yes), () -> plain.holiday(c, day, yes));
        } else {
            int n = number(0, (int) house.count(4));
            calls++;
            change("end(" + n + ")", () -> house.end(n), () -> plain.end(n));
        }
    }

    /** Mostly on an empty tape, and mostly without what fills up the last 20 bytes. */
    private void feed(String text) {
        if (random.nextInt(8) != 0) {
            change("end(0)", () -> house.end(0), () -> plain.end(0));
        }
        byte[] bytes = text.getBytes(StandardCharsets.ISO_8859_1);
        ByteBuffer rows = ByteBuffer.wrap(Arrays.copyOf(bytes, (bytes.length + 19) / 20 * 20));
        int left = rows.remaining() - bytes.length;
        while (rows.hasRemaining()) {
            int[] words = {rows.getInt(), rows.getInt(), rows.getInt(), rows.getInt(),
                rows.getInt()};
            change("feed" + Arrays.toString(words), () -> house.feed(words[0], words[1], words[2],
                    words[3], words[4]), () -> plain.feed(words));
        }
        if (random.nextInt(30) != 0) {
            int n = (int) house.count(4) - left;
            calls++;
            change("end(" + n + ")", () -> house.end(n), () -> plain.end(n));
        }
    }

    private void lookAtSome() {
        int looks = random.nextInt(6);
        for (int i = 0; i < looks; i++) {
            lookAtOne();
        }
    }

    private void lookAtOne() {
        int kind = random.nextInt(8);
        if (kind < 2) {
            int what = number(0, 5);
            agree("count(" + what + ")", () -> house.count(what), () -> plain.count(what));
        } else if (kind < 5) {
            int j = random.nextInt(4) == 0 ? number(0, 99) : random.nextInt(10);
            int what = number(0, 4);
            agree("job(" + j + ", " + what + ")", () -> house.job(j, what),
                    () -> plain.job(j, what));
        } else if (kind < 7) {
            int i = random.nextInt(4) == 0 ? number(0, 499) : random.nextInt(20);
            int what = number(0, 2);
            agree("start(" + i + ", " + what + ")", () -> house.start(i, what),
                    () -> plain.start(i, what));
        } else {
            search();
        }
    }

    private void search() {
        int k = random.nextInt(4);
        int z = random.nextInt(4);
        int c = number(-1, 3);
        long t = random.nextInt(25) == 0 ? Check.END_OF_TIME + 1 : plain.interestingTime(z, random);
        int what = number(0, 7);
        String by = k + ", " + z + ", " + c + ", " + t + ")";
        agree("next(" + by, () -> house.next(k, z, c, t), () -> plain.next(k, z, c, t));
        agree("last(" + by, () -> house.last(k, z, c, t), () -> plain.last(k, z, c, t));
        agree("local(" + z + ", " + t + ", " + what + ")", () -> house.local(z, t, what),
                () -> plain.local(z, t, what));
    }
}
