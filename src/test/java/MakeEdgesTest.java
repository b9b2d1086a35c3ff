/** JOBS, promises 10 and 11: each sentence that names a boundary has a test of its own. */
final class MakeEdgesTest {
    private static final long SPAN = 1L << 40;
    private static final long DAY = 86400000L;
    private static final int[] EXTREMES = {Integer.MIN_VALUE, -1, 0, 1, Integer.MAX_VALUE};

    public static void main(String[] args) {
        Check.sentence("JOBS 0 .. 99 are there or not.", MakeEdgesTest::hundredJobs);
        Check.sentence("ORDER: a number from 0, one more for each JOB that is made.",
                MakeEdgesTest::orders);
        Check.sentence("kind 0 at once or later, 1 fixed rate, 2 fixed delay",
                MakeEdgesTest::kinds);
        Check.sentence("delay 0 .. 2^40 from the CLOCK on to its first NOMINAL time",
                MakeEdgesTest::delays);
        Check.sentence("(it must be a TIME: else IllegalArgumentException, like all numbers before"
                + " the others)", MakeEdgesTest::mustBeATime);
        Check.sentence("period 1 .. 2^40 (kind 0: 0)", MakeEdgesTest::periods);
        Check.sentence("duration 0 .. 2^40", MakeEdgesTest::durations);
        Check.sentence("priority any", MakeEdgesTest::priorities);
        Check.sentence("policy 0 .. 2", MakeEdgesTest::policies);
        Check.sentence("fails 0 or more", MakeEdgesTest::fails);
        Check.sentence("A JOB with the least number that is not used, PENDING",
                MakeEdgesTest::leastNumber);
        Check.sentence("100 are there: IndexOutOfBoundsException.", MakeEdgesTest::full);
        Check.sentence("Nothing starts. Answers its number.", MakeEdgesTest::nothingStarts);
        Check.sentence("Likewise by FIRES behind the CLOCK", MakeEdgesTest::behindTheClock);
        Check.sentence("(as CRON, ZONE, CALENDAR are whenever one is sought)",
                MakeEdgesTest::wheneverSought);
        Check.sentence("there is none: UnsupportedOperationException", MakeEdgesTest::noFire);
        Check.sentence("ahead of 100 being there", MakeEdgesTest::aheadOfFull);
        Check.finish();
    }

    private static JobHouse daily() {
        JobHouse house = new JobHouse();
        Check.cron(house, 0, "0 0 0 * * ?");
        return house;
    }

    private static JobHouse withJobs(int count) {
        JobHouse house = daily();
        for (int j = 0; j < count; j++) {
            house.make(0, 5, 0, 0, 0, 0, 0);
        }
        return house;
    }

    private static JobHouse nearTheEnd(long left) {
        JobHouse house = new JobHouse();
        house.stall(1L << 43);
        house.stall(Check.END_OF_TIME - left - (1L << 43));
        return house;
    }

    private static void hundredJobs() {
        JobHouse house = new JobHouse();
        for (int j = 0; j < 100; j++) {
            int number = j;
            Check.fails("not there: " + j, Check.MISSING, () -> house.job(number, 0));
            Check.is("made", house.make(0, 0, 0, 0, 0, 0, 0), j);
            Check.is("there", house.job(j, 0), 1);
        }
        Check.fails("100", Check.MISSING, () -> house.job(100, 0));
        Check.is("a hundred", house.count(1), 100);
        Check.is("all start", house.advance(0), 100);
        Check.is("and go", house.count(1), 0);
        Check.fails("99", Check.MISSING, () -> house.job(99, 0));
    }

    private static void orders() {
        JobHouse house = withJobs(0);
        for (int order = 0; order < 5; order++) {
            int j = order % 2 == 0 ? house.make(0, 0, 0, 0, 0, 0, 0)
                    : house.makeCron(0, 0, -1, 0, 0, 0, 0);
            Check.is("order", house.job(j, 3), order);
            Check.fails("out of range", Check.RANGE, () -> house.make(3, 0, 0, 0, 0, 0, 0));
            Check.fails("without fires", Check.BROKEN,
                    () -> house.makeCron(1, 0, -1, 0, 0, 0, 0));
            house.cancel(j);
        }
        JobHouse full = withJobs(100);
        Check.fails("a 101st", Check.FULL, () -> full.make(0, 0, 0, 0, 0, 0, 0));
        full.cancel(3);
        Check.is("the number is used again", full.make(0, 0, 0, 0, 0, 0, 0), 3);
        Check.is("the order is not", full.job(3, 3), 100);
    }

    private static void kinds() {
        for (int kind = 0; kind < 3; kind++) {
            JobHouse house = new JobHouse();
            house.make(kind, 3, kind == 0 ? 0 : 10, 4, 0, 0, 0);
            Check.is("starts of kind " + kind, house.advance(17), kind == 0 ? 1 : 2);
            if (kind > 0) {
                Check.is("its second time", house.start(1, 2), kind == 1 ? 13 : 17);
            }
        }
        JobHouse house = new JobHouse();
        for (int kind : new int[] {Integer.MIN_VALUE, -1, 3, Integer.MAX_VALUE}) {
            Check.fails("kind " + kind, Check.RANGE, () -> house.make(kind, 0, 0, 0, 0, 0, 0));
            Check.fails("kind " + kind, Check.RANGE, () -> house.make(kind, 0, 1, 0, 0, 0, 0));
        }
    }

    private static void delays() {
        for (int kind = 0; kind < 3; kind++) {
            JobHouse house = new JobHouse();
            int k = kind;
            int period = kind == 0 ? 0 : 1;
            house.stall(77);
            for (long delay : new long[] {0, 1, SPAN - 1, SPAN}) {
                int j = house.make(kind, delay, period, 0, 0, 0, 0);
                Check.is("nominal", house.job(j, 1), 77 + delay);
            }
            for (long delay : new long[] {-1, SPAN + 1, Long.MIN_VALUE, Long.MAX_VALUE}) {
                Check.fails("delay " + delay, Check.RANGE,
                        () -> house.make(k, delay, period, 0, 0, 0, 0));
            }
        }
    }

    private static void mustBeATime() {
        JobHouse house = nearTheEnd(10);
        Check.is("at the end", house.make(0, 10, 0, 0, 0, 0, 0), 0);
        Check.is("its time", house.job(0, 1), Check.END_OF_TIME);
        for (long delay : new long[] {11, SPAN}) {
            Check.fails("beyond " + delay, Check.RANGE, () -> house.make(0, delay, 0, 0, 0, 0, 0));
            Check.fails("a rate " + delay, Check.RANGE, () -> house.make(1, delay, 1, 0, 0, 0, 0));
            Check.fails("a delay " + delay, Check.RANGE,
                    () -> house.make(2, delay, 1, 0, 0, 0, 0));
        }
        Check.is("none came", house.count(1), 1);
        for (int j = 1; j < 100; j++) {
            house.make(0, 0, 0, 0, 0, 0, 0);
        }
        Check.fails("before full", Check.RANGE, () -> house.make(0, 11, 0, 0, 0, 0, 0));
        house.close(false, false);
        Check.fails("before closed", Check.RANGE, () -> house.make(0, 11, 0, 0, 0, 0, 0));
        Check.fails("closed", Check.CLOSED, () -> house.make(0, 10, 0, 0, 0, 0, 0));
    }

    private static void periods() {
        JobHouse house = new JobHouse();
        for (long period : new long[] {1, 2, SPAN - 1, SPAN}) {
            for (int kind = 1; kind <= 2; kind++) {
                int j = house.make(kind, 0, period, 0, 0, 0, 2);
                house.advance(0);
                Check.is("kind " + kind, house.job(j, 1), period);
            }
            Check.fails("kind 0", Check.RANGE, () -> house.make(0, 0, period, 0, 0, 0, 0));
        }
        for (long period : new long[] {0, -1, SPAN + 1, Long.MIN_VALUE, Long.MAX_VALUE}) {
            Check.fails("rate " + period, Check.RANGE, () -> house.make(1, 0, period, 0, 0, 0, 0));
            Check.fails("delay " + period, Check.RANGE,
                    () -> house.make(2, 0, period, 0, 0, 0, 0));
            if (period != 0) {
                Check.fails("once " + period, Check.RANGE,
                        () -> house.make(0, 0, period, 0, 0, 0, 0));
            }
        }
        Check.is("kind 0 with 0", house.make(0, 0, 0, 0, 0, 0, 0), 8);
    }

    private static void durations() {
        JobHouse house = daily();
        house.workers(8);
        for (long duration : new long[] {1, SPAN - 1, SPAN}) {
            int j = house.make(0, 0, 0, duration, 0, 0, 0);
            house.advance(0);
            Check.is("its end", house.job(j, 4), duration);
            int cron = house.makeCron(0, 0, -1, duration, 0, 0, 0);
            Check.is("a cron, too", house.job(cron, 0), 1);
        }
        Check.is("0", house.make(1, 0, 1, 0, 0, 0, 0), 6);
        Check.is("0, too", house.makeCron(0, 0, -1, 0, 0, 0, 0), 7);
        for (long wrong : new long[] {-1, SPAN + 1, Long.MIN_VALUE, Long.MAX_VALUE}) {
            Check.fails("" + wrong, Check.RANGE, () -> house.make(0, 0, 0, wrong, 0, 0, 0));
            Check.fails("cron " + wrong, Check.RANGE,
                    () -> house.makeCron(0, 0, -1, wrong, 0, 0, 0));
        }
    }

    private static void priorities() {
        JobHouse house = daily();
        for (int priority : EXTREMES) {
            house.make(0, DAY, 0, 0, priority, 0, 0);
            house.makeCron(0, 0, -1, 0, priority, 0, 1);
        }
        Check.is("all start", house.advance(DAY), 10);
        for (int i = 0; i < 10; i++) {
            Check.is("the greatest first", house.start(i, 1), i % 2 == 0 ? 8 - i : 10 - i);
        }
    }

    private static void policies() {
        JobHouse house = daily();
        for (int policy : new int[] {-1, 3, Integer.MIN_VALUE, Integer.MAX_VALUE}) {
            for (int kind = 0; kind < 3; kind++) {
                int k = kind;
                Check.fails("kind " + kind + " policy " + policy, Check.RANGE,
                        () -> house.make(k, 0, k == 0 ? 0 : 1, 0, 0, policy, 0));
            }
            Check.fails("cron, policy " + policy, Check.RANGE,
                    () -> house.makeCron(0, 0, -1, 0, 0, policy, 0));
        }
        for (int policy = 0; policy <= 2; policy++) {
            Check.is("policy " + policy, house.make(0, 0, 0, 0, 0, policy, 0), 4 * policy);
            house.make(1, 0, 1, 0, 0, policy, 0);
            house.make(2, 0, 1, 0, 0, policy, 0);
            house.makeCron(0, 0, -1, 0, 0, policy, 0);
        }
    }

    private static void fails() {
        JobHouse house = daily();
        for (int fails : new int[] {-1, Integer.MIN_VALUE}) {
            Check.fails("fails " + fails, Check.RANGE, () -> house.make(0, 0, 0, 0, 0, 0, fails));
            Check.fails("rate " + fails, Check.RANGE, () -> house.make(1, 0, 1, 0, 0, 0, fails));
            Check.fails("cron " + fails, Check.RANGE,
                    () -> house.makeCron(0, 0, -1, 0, 0, 0, fails));
        }
        for (int fails : new int[] {0, 1, Integer.MAX_VALUE}) {
            int j = house.make(1, 0, 1, 0, 0, 0, fails);
            Check.is("made", house.job(j, 0), 1);
            int cron = house.makeCron(0, 0, -1, 0, 0, 0, fails);
            Check.is("made by cron", house.job(cron, 0), 1);
        }
    }

    private static void leastNumber() {
        JobHouse house = withJobs(100);
        for (int j : new int[] {99, 0, 42}) {
            house.cancel(j);
        }
        Check.is("0", house.make(0, 9, 0, 0, 0, 0, 0), 0);
        Check.is("42", house.makeCron(0, 0, -1, 0, 0, 0, 0), 42);
        Check.is("99", house.make(1, 9, 1, 0, 0, 0, 0), 99);
        Check.is("pending", house.job(99, 0), 1);
        Check.is("pending, too", house.job(42, 0), 1);
        JobHouse runs = new JobHouse();
        runs.make(0, 0, 0, 10, 0, 0, 0);
        runs.make(0, 0, 0, 5, 0, 0, 0);
        runs.advance(0);
        Check.is("running ones use theirs", runs.make(0, 0, 0, 0, 0, 0, 0), 2);
        runs.cancel(1);
        Check.is("stopped ones, too", runs.make(0, 0, 0, 0, 0, 0, 0), 3);
        runs.advance(5);
        Check.is("freed ones don't", runs.make(0, 0, 0, 0, 0, 0, 0), 1);
    }

    private static void full() {
        JobHouse house = withJobs(99);
        Check.is("the hundredth", house.make(0, 0, 0, 100, 0, 0, 0), 99);
        Check.fails("once", Check.FULL, () -> house.make(0, 0, 0, 0, 0, 0, 0));
        Check.fails("rate", Check.FULL, () -> house.make(1, 0, 1, 0, 0, 0, 0));
        Check.fails("delay", Check.FULL, () -> house.make(2, 0, 1, 0, 0, 0, 0));
        Check.fails("cron", Check.FULL, () -> house.makeCron(0, 0, -1, 0, 0, 0, 0));
        house.advance(0);
        Check.fails("a running one counts", Check.FULL, () -> house.make(0, 0, 0, 0, 0, 0, 0));
        house.cancel(99);
        Check.fails("a stopped one, too", Check.FULL, () -> house.make(0, 0, 0, 0, 0, 0, 0));
        house.cancel(98);
        Check.is("room again", house.make(0, 0, 0, 0, 0, 0, 0), 98);
    }

    private static void nothingStarts() {
        JobHouse house = new JobHouse();
        Check.cron(house, 0, "* * * * * ?");
        Check.is("at once", house.make(0, 0, 0, 0, 0, 0, 0), 0);
        Check.is("at a rate", house.make(1, 0, 1, 5, 0, 0, 0), 1);
        Check.is("by cron", house.makeCron(0, 0, -1, 5, 0, 0, 0), 2);
        Check.is("no start", house.count(3), 0);
        Check.is("none runs", house.count(2), 0);
        Check.is("all are there", house.count(1), 3);
        for (int j = 0; j < 3; j++) {
            Check.is("pending", house.job(j, 0), 1);
            Check.is("no start of it", house.job(j, 2), 0);
        }
    }

    private static void behindTheClock() {
        JobHouse house = daily();
        house.makeCron(0, 0, -1, 0, 0, 0, 0);
        Check.is("0 is not behind 0", house.job(0, 1), DAY);
        house.stall(DAY - 1);
        house.makeCron(0, 0, -1, 0, 0, 0, 0);
        Check.is("just before", house.job(1, 1), DAY);
        house.stall(1);
        house.makeCron(0, 0, -1, 0, 0, 0, 0);
        Check.is("just then", house.job(2, 1), 2 * DAY);
        house.stall(1);
        house.makeCron(0, 0, -1, 0, 0, 0, 0);
        Check.is("just behind", house.job(3, 1), 2 * DAY);
    }

    private static void wheneverSought() {
        JobHouse house = new JobHouse();
        Check.cron(house, 9, "0 0 0 * * ?");
        Check.zone(house, 1, "+60");
        house.makeCron(9, 1, 2, 0, 0, 0, 0);
        Check.is("sought when made", house.job(0, 1), DAY - 3600000);
        Check.cron(house, 9, "0 0 6 * * ?");
        Check.zone(house, 1, "-60");
        house.holiday(2, 1, true);
        Check.is("it stays", house.job(0, 1), DAY - 3600000);
        Check.is("it starts then", house.advance(DAY - 3600000), 1);
        // Behind 23:00 of the first day: 06:00 of the third one, as the second is a holiday.
        Check.is("sought when freed", house.job(0, 1), 2 * DAY + 7 * 3600000);
        house.holiday(2, 1, false);
        Check.is("it stays again", house.job(0, 1), 2 * DAY + 7 * 3600000);
        Check.cron(house, 9, "0 0 6 1 1 ? 1970");
        house.advance(2 * DAY);
        Check.is("it goes when there is none any more", house.count(1), 0);
    }

    private static void noFire() {
        JobHouse house = daily();
        Check.fails("not told", Check.BROKEN, () -> house.makeCron(1, 0, -1, 0, 0, 0, 0));
        Check.cron(house, 1, "0 0 0 30 2 ?");
        Check.fails("never", Check.BROKEN, () -> house.makeCron(1, 0, -1, 0, 0, 0, 0));
        Check.cron(house, 1, "0 0 0 1 1 ? 1970");
        Check.fails("none behind the clock", Check.BROKEN,
                () -> house.makeCron(1, 0, -1, 0, 0, 0, 0));
        Check.cron(house, 1, "0 0 0 2 1 ? 1970");
        Check.is("one", house.makeCron(1, 0, 3, 0, 0, 0, 0), 0);
        house.holiday(3, 1, true);
        Check.fails("a holiday", Check.BROKEN, () -> house.makeCron(1, 0, 3, 0, 0, 0, 0));
        Check.is("no job came", house.count(1), 1);
        JobHouse end = nearTheEnd(1000);
        Check.cron(end, 0, "* * * * * ?");
        Check.is("the last second", end.makeCron(0, 0, -1, 0, 0, 0, 0), 0);
        Check.is("its time", end.job(0, 1), Check.END_OF_TIME - 999);
        end.stall(1);
        Check.fails("behind it", Check.BROKEN, () -> end.makeCron(0, 0, -1, 0, 0, 0, 0));
    }

    private static void aheadOfFull() {
        JobHouse house = withJobs(100);
        Check.fails("no fire", Check.BROKEN, () -> house.makeCron(1, 0, -1, 0, 0, 0, 0));
        Check.fails("a fire", Check.FULL, () -> house.makeCron(0, 0, -1, 0, 0, 0, 0));
        Check.fails("range ahead of both", Check.RANGE,
                () -> house.makeCron(1, 0, -1, 0, 0, 3, 0));
        house.close(false, false);
        Check.fails("closed ahead of both", Check.CLOSED,
                () -> house.makeCron(1, 0, -1, 0, 0, 0, 0));
        Check.fails("range ahead of closed", Check.RANGE,
                () -> house.makeCron(1, 0, -1, -1, 0, 0, 0));
    }
}
