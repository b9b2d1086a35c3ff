/** Promises 14, 15 and 18, and what is done at a TIME: a test for each sentence with a boundary. */
final class AdvanceEdgesTest {
    private static final long DAY = 86400000L;
    private static final long WAY = 1L << 43;
    private static final long END = Check.END_OF_TIME;

    public static void main(String[] args) {
        Check.sentence("RUNNING JOBS that end then (or ended before, while nothing was done), by"
                + " their ORDER alone, are FREED: their WORKER is", AdvanceEdgesTest::freedFirst);
        Check.sentence("a JOB that was stopped, failed, or is at once or later goes",
                AdvanceEdgesTest::whoGoes);
        Check.sentence("else it is PENDING with its next NOMINAL time, if there is one, else it"
                + " goes", AdvanceEdgesTest::pendingOrGone);
        Check.sentence("as long as there are fewer RUNNING JOBS than WORKERS",
                AdvanceEdgesTest::fewerThanWorkers);
        Check.sentence("PENDING ones whose NOMINAL time is not behind the CLOCK",
                AdvanceEdgesTest::notBehindTheClock);
        Check.sentence("the one with the least NOMINAL time (then the greatest PRIORITY, then the"
                + " least ORDER) STARTS", AdvanceEdgesTest::whoStarts);
        Check.sentence("it is RUNNING till its DURATION later", AdvanceEdgesTest::duration);
        Check.sentence("a DURATION of 0: it is FREED at once, before the next one starts",
                AdvanceEdgesTest::noDuration);
        Check.sentence("(also if it is the last START of a call)", AdvanceEdgesTest::lastStart);
        Check.sentence("fixed delay: e and its period", AdvanceEdgesTest::fixedDelay);
        Check.sentence("0 all: the next behind n", () -> policy(0));
        Check.sentence("1 once: the last one that is behind n and not behind e, if there is one,"
                + " else the next behind n", () -> policy(1));
        Check.sentence("2 skip: the first one behind both n and e", () -> policy(2));
        Check.sentence("A NOMINAL time beyond the end of TIME is none.",
                AdvanceEdgesTest::beyondTheEnd);
        Check.sentence("FAILS: if it is not 0, the run with that number (from 1) fails.",
                AdvanceEdgesTest::fails);
        Check.sentence("n 0 .. 2^43. All is done that is at the CLOCK",
                AdvanceEdgesTest::waysOfAdvance);
        Check.sentence("and at each TIME up to n later, one after the other; the CLOCK is there"
                + " then", AdvanceEdgesTest::upToN);
        Check.sentence("STARTS are numbered from 0; with the 500th of a call it ends, and the"
                + " CLOCK is at that", AdvanceEdgesTest::fiveHundred);
        Check.sentence("(what else is to be done then is left to the next call)",
                AdvanceEdgesTest::leftToTheNext);
        Check.sentence("Answers how many STARTS.", AdvanceEdgesTest::howMany);
        Check.sentence("n 0 .. 2^43. The CLOCK goes n on", AdvanceEdgesTest::waysOfStall);
        Check.sentence("and nothing is done", AdvanceEdgesTest::nothingDone);
        Check.sentence("(RUNNING ones are FREED late then, by the next advance: at the CLOCK, which"
                + " is e)", AdvanceEdgesTest::freedLate);
        Check.sentence("Beyond the end of TIME: IllegalArgumentException.",
                AdvanceEdgesTest::endOfTime);
        Check.sentence("START i of the latest advance that did not throw",
                AdvanceEdgesTest::latestAdvance);
        Check.sentence("there is none: NoSuchElementException", AdvanceEdgesTest::noStart);
        Check.sentence("what 0 .. 2.", AdvanceEdgesTest::whatsOfStart);
        Check.finish();
    }

    private static int once(JobHouse house, long delay, long duration, int priority) {
        return house.make(0, delay, 0, duration, priority, 0, 0);
    }

    private static JobHouse at(long clock) {
        JobHouse house = new JobHouse();
        house.stall(Math.min(clock, WAY));
        house.stall(clock - Math.min(clock, WAY));
        return house;
    }

    private static void starts(JobHouse house, long n, long[]... due) {
        Check.is("starts", house.advance(n), due.length);
        for (int i = 0; i < due.length; i++) {
            for (int what = 0; what < due[i].length; what++) {
                Check.is("start " + i + " what " + what, house.start(i, what), due[i][what]);
            }
        }
    }

    private static void freedFirst() {
        JobHouse house = new JobHouse();
        house.workers(2);
        once(house, 0, 10, 0);
        once(house, 0, 10, 0);
        once(house, 10, 1, 0);
        once(house, 10, 1, 0);
        once(house, 10, 1, 0);
        starts(house, 9, new long[] {0, 0}, new long[] {0, 1});
        starts(house, 1, new long[] {10, 2}, new long[] {10, 3});
        // Both ended while nothing was done: one at 11, which lies before the clock.
        house.stall(5);
        starts(house, 0, new long[] {15, 4, 10});
        Check.is("the others went", house.count(1), 1);
        JobHouse again = new JobHouse();
        again.workers(1);
        again.make(1, 0, 10, 10, 5, 0, 0);
        once(again, 10, 1, 0);
        // The freed one is pending at once, and first by its priority.
        starts(again, 10, new long[] {0, 0, 0}, new long[] {10, 0, 10});
        JobHouse spare = new JobHouse();
        spare.make(1, 0, 10, 10, 5, 0, 0);
        once(spare, 10, 1, 0);
        // So it is where a worker is to spare for the other one.
        starts(spare, 10, new long[] {0, 0, 0}, new long[] {10, 0, 10}, new long[] {10, 1, 10});
    }

    private static void whoGoes() {
        JobHouse house = new JobHouse();
        once(house, 0, 5, 0);
        house.make(1, 0, 10, 5, 0, 0, 1);
        house.make(2, 0, 10, 5, 0, 0, 0);
        house.make(1, 0, 10, 5, 0, 0, 2);
        house.advance(0);
        house.cancel(2);
        Check.is("all run till they are freed", house.advance(4), 0);
        Check.is("all are there", house.count(1), 4);
        house.advance(1);
        Check.is("three went", house.count(1), 1);
        Check.is("one stays", house.job(3, 1), 10);
        house.advance(10);
        Check.is("it fails with its second run", house.count(1), 0);
    }

    private static void pendingOrGone() {
        JobHouse house = new JobHouse();
        Check.cron(house, 0, "0 0 0 2,3 1 ? 1970");
        house.makeCron(0, 0, -1, 7, 0, 0, 0);
        house.advance(DAY + 7);
        Check.is("pending", house.job(0, 0), 1);
        Check.is("with its next time", house.job(0, 1), 2 * DAY);
        house.advance(DAY - 1);
        Check.is("it runs", house.job(0, 0), 2);
        house.advance(1);
        Check.is("there is none: it goes", house.count(1), 0);
        Check.is("its number is free", once(house, 0, 0, 0), 0);
    }

    private static void fewerThanWorkers() {
        JobHouse house = new JobHouse();
        for (int j = 0; j < 9; j++) {
            once(house, 0, 10, 0);
        }
        house.workers(0);
        Check.is("none of none", house.advance(1), 0);
        house.workers(1);
        Check.is("one of one", house.advance(1), 1);
        house.workers(2);
        Check.is("one more of two", house.advance(1), 1);
        house.workers(1);
        Check.is("none while there are more", house.advance(7), 0);
        Check.is("as many run", house.count(2), 2);
        Check.is("none while there are as many", house.advance(1), 0);
        Check.is("one when the last one ends", house.advance(2), 1);
        house.workers(8);
        Check.is("all that are left", house.advance(1), 6);
        Check.is("seven run", house.count(2), 7);
    }

    private static void notBehindTheClock() {
        JobHouse house = new JobHouse();
        once(house, 5, 0, 0);
        Check.is("a millisecond before", house.advance(4), 0);
        Check.is("just then", house.advance(1), 1);
        once(house, 1, 0, 0);
        Check.is("a millisecond behind", house.advance(0), 0);
        house.stall(1);
        Check.is("now it is not", house.advance(0), 1);
        once(house, 0, 0, 0);
        house.stall(100);
        Check.is("long before", house.advance(0), 1);
    }

    private static void whoStarts() {
        JobHouse house = new JobHouse();
        once(house, 2, 0, Integer.MAX_VALUE);
        once(house, 1, 0, Integer.MIN_VALUE);
        once(house, 1, 0, 0);
        once(house, 1, 0, -1);
        once(house, 1, 0, 0);
        once(house, 1, 0, Integer.MAX_VALUE);
        once(house, 1, 0, Integer.MAX_VALUE);
        once(house, 0, 0, Integer.MIN_VALUE);
        house.cancel(4);
        house.stall(5);
        once(house, 0, 0, Integer.MAX_VALUE);
        starts(house, 0, new long[] {5, 7, 0}, new long[] {5, 5, 1}, new long[] {5, 6, 1},
                new long[] {5, 2, 1}, new long[] {5, 3, 1}, new long[] {5, 1, 1},
                new long[] {5, 0, 2}, new long[] {5, 4, 5});
        // A greater number with a lesser order.
        once(house, 0, 0, 0);
        once(house, 0, 0, 0);
        house.cancel(0);
        once(house, 0, 0, 0);
        starts(house, 0, new long[] {5, 1}, new long[] {5, 0});
    }

    private static void duration() {
        JobHouse house = new JobHouse();
        once(house, 0, 1, 0);
        once(house, 0, 7, 0);
        house.stall(3);
        house.advance(0);
        Check.is("both run", house.count(2), 2);
        Check.is("from its start on", house.job(1, 4), 10);
        house.advance(1);
        Check.is("one is freed", house.count(2), 1);
        house.advance(5);
        Check.is("a millisecond before", house.count(2), 1);
        house.advance(1);
        Check.is("just then", house.count(2), 0);
        once(house, 0, 1L << 40, 0);
        house.advance((1L << 40) - 1);
        Check.is("the longest", house.count(2), 1);
        house.advance(1);
        Check.is("is freed, too", house.count(1), 0);
    }

    private static void noDuration() {
        JobHouse house = new JobHouse();
        house.workers(1);
        for (int j = 0; j < 3; j++) {
            once(house, 0, 0, 0);
        }
        house.make(1, 0, 1, 0, 1, 0, 0);
        house.stall(2);
        // With one worker all of them start; the one at a rate is pending before the next starts.
        starts(house, 0, new long[] {2, 3, 0}, new long[] {2, 0, 0}, new long[] {2, 1, 0},
                new long[] {2, 2, 0}, new long[] {2, 3, 1}, new long[] {2, 3, 2});
        Check.is("none runs", house.count(2), 0);
        Check.is("pending", house.job(3, 0), 1);
        JobHouse spare = new JobHouse();
        spare.workers(8);
        spare.make(1, 0, 1, 0, 1, 0, 0);
        once(spare, 1, 0, 0);
        once(spare, 1, 5, 0);
        spare.stall(2);
        // With workers to spare it is freed before the next one starts, too.
        starts(spare, 0, new long[] {2, 0, 0}, new long[] {2, 0, 1}, new long[] {2, 1, 1},
                new long[] {2, 2, 1}, new long[] {2, 0, 2});
        JobHouse full = new JobHouse();
        full.workers(1);
        once(full, 0, 5, 1);
        once(full, 0, 0, 0);
        starts(full, 4, new long[] {0, 0});
        starts(full, 1, new long[] {5, 1});
    }

    private static void lastStart() {
        JobHouse house = new JobHouse();
        house.make(1, 0, 1, 0, 0, 0, 0);
        Check.is("five hundred", house.advance(499), 500);
        Check.is("the last one is freed", house.job(0, 0), 1);
        Check.is("its next time", house.job(0, 1), 500);
        Check.is("none runs", house.count(2), 0);
        JobHouse goes = new JobHouse();
        goes.make(2, 0, 1, 0, 0, 0, 500);
        Check.is("the 500th fails", goes.advance(499), 500);
        Check.is("it went", goes.count(1), 0);
        JobHouse last = new JobHouse();
        once(last, 3, 0, 0);
        Check.is("at the end of the way", last.advance(3), 1);
        Check.is("it went, too", last.count(1), 0);
    }

    private static void fixedDelay() {
        for (int policy = 0; policy < 3; policy++) {
            JobHouse house = new JobHouse();
            house.make(2, 0, 1, 0, 0, policy, 0);
            house.make(2, 0, 10, 25, 0, policy, 0);
            house.advance(0);
            Check.is("of duration 0", house.job(0, 1), 1);
            house.cancel(0);
            house.advance(25);
            Check.is("its end and its period", house.job(1, 1), 35);
            house.stall(20);
            house.advance(0);
            house.stall(1000);
            house.advance(0);
            Check.is("freed late", house.job(1, 1), 1055);
        }
    }

    /** A rate of 10 from 0 on, or a fire each day, that was freed at e. */
    private static long rate(int policy, long e) {
        JobHouse house = new JobHouse();
        house.make(1, 0, 10, e, 0, policy, 0);
        house.advance(0);
        house.workers(0);
        house.advance(e);
        return house.job(0, 1);
    }

    private static long daily(int policy, long e) {
        JobHouse house = new JobHouse();
        Check.cron(house, 0, "0 0 0 * * ?");
        house.makeCron(0, 0, -1, e, 0, policy, 0);
        house.advance(DAY);
        house.workers(0);
        house.advance(e);
        return house.job(0, 1) - DAY;
    }

    private static void policy(int policy) {
        // Freed at: its start, before, at, behind the next one, and so on.
        long[] ends = {0, 1, 9, 10, 11, 19, 20, 21, 39, 40, 41};
        long[][] due = {{10, 10, 10, 10, 10, 10, 10, 10, 10, 10, 10},
            {10, 10, 10, 10, 10, 10, 20, 20, 30, 40, 40},
            {10, 10, 10, 20, 20, 20, 30, 30, 40, 50, 50}};
        for (int i = 0; i < ends.length; i++) {
            Check.is("rate freed at " + ends[i], rate(policy, ends[i]), due[policy][i]);
            Check.is("cron freed at " + ends[i] + " tenths", daily(policy, ends[i] * DAY / 10),
                    due[policy][i] * DAY / 10);
        }
        Check.is("a second before", daily(policy, DAY - 1000), DAY);
        Check.is("a millisecond before", daily(policy, 2 * DAY - 1), policy == 2 ? 2 * DAY : DAY);
        Check.is("far behind", rate(policy, (1L << 40) - 6),
                policy == 0 ? 10 : (1L << 40) - (policy == 1 ? 6 : -4));
    }

    private static void beyondTheEnd() {
        for (int kind = 1; kind <= 2; kind++) {
            JobHouse house = at(END - 10);
            house.make(kind, 0, 10, 0, 0, 0, 0);
            house.make(kind, 0, 11, 0, 0, 0, 0);
            house.make(kind, 0, 1L << 40, 0, 0, 0, 0);
            house.advance(0);
            Check.is("one is left", house.count(1), 1);
            Check.is("at the end", house.job(0, 1), END);
            Check.is("where it starts", house.advance(10), 1);
            Check.is("and goes", house.count(1), 0);
        }
        for (int policy = 0; policy < 3; policy++) {
            JobHouse house = at(END - 10);
            house.make(1, 0, 4, 9, 0, policy, 0);
            house.advance(9);
            Check.is("freed at 9, policy " + policy, house.count(1), policy < 2 ? 1 : 0);
        }
        JobHouse cron = at(END - 1999);
        Check.cron(cron, 0, "* * * * * ?");
        cron.makeCron(0, 0, -1, 0, 0, 0, 0);
        Check.is("the last second", cron.advance(1999), 1);
        Check.is("none behind it", cron.count(1), 0);
    }

    private static void fails() {
        int[] numbers = {0, 1, 2, 5, 499, 500, Integer.MAX_VALUE};
        for (int number : numbers) {
            for (int kind = 1; kind <= 2; kind++) {
                JobHouse house = new JobHouse();
                house.make(kind, 0, 1, 0, 0, 0, number);
                boolean failed = number > 0 && number <= 500;
                Check.is("fails " + number, house.advance(1000), failed ? number : 500);
                Check.is("there or not", house.count(1), failed ? 0 : 1);
            }
        }
        JobHouse cron = new JobHouse();
        Check.cron(cron, 0, "* * * * * ?");
        cron.makeCron(0, 0, -1, 10, 0, 0, 3);
        Check.is("cron", cron.advance(3009), 3);
        Check.is("its third run fails at its end", cron.job(0, 0), 2);
        cron.advance(1);
        Check.is("it went", cron.count(1), 0);
        JobHouse used = new JobHouse();
        used.make(1, 0, 1, 0, 0, 0, 2);
        used.advance(5);
        used.make(1, 0, 1, 0, 0, 0, 2);
        Check.is("a new one with its number counts from 1", used.advance(5), 2);
    }

    private static void waysOfAdvance() {
        JobHouse house = new JobHouse();
        for (long n : new long[] {-1, WAY + 1, Long.MIN_VALUE, Long.MAX_VALUE}) {
            Check.fails("advance " + n, Check.RANGE, () -> house.advance(n));
        }
        Check.is("the clock stays", house.count(0), 0);
        once(house, 0, 0, 0);
        Check.is("at the clock", house.advance(0), 1);
        Check.is("it stays", house.count(0), 0);
        Check.is("the longest", house.advance(WAY), 0);
        Check.is("it is there then", house.count(0), WAY);
    }

    private static void waysOfStall() {
        JobHouse house = new JobHouse();
        for (long n : new long[] {-1, WAY + 1, Long.MIN_VALUE, Long.MAX_VALUE}) {
            Check.failsVoid("stall " + n, Check.RANGE, () -> house.stall(n));
        }
        Check.is("the clock stays", house.count(0), 0);
        house.stall(0);
        Check.is("0", house.count(0), 0);
        house.stall(1);
        Check.is("1", house.count(0), 1);
        house.stall(WAY);
        Check.is("the longest", house.count(0), WAY + 1);
    }

    private static void upToN() {
        JobHouse house = new JobHouse();
        once(house, 10, 5, 0);
        once(house, 11, 0, 0);
        once(house, 3, 0, 0);
        starts(house, 10, new long[] {3, 2}, new long[] {10, 0});
        Check.is("the clock", house.count(0), 10);
        Check.is("one is behind it", house.job(1, 0), 1);
        starts(house, 4, new long[] {11, 1});
        Check.is("not yet freed", house.count(2), 1);
        house.advance(1);
        Check.is("freed at the end of the way", house.count(2), 0);
        Check.is("nothing is at those times", house.advance(1000), 0);
        Check.is("the clock all the same", house.count(0), 1015);
    }

    private static void fiveHundred() {
        for (int left = -1; left <= 1; left++) {
            JobHouse house = new JobHouse();
            house.make(1, 0, 2, 0, 0, 0, 500 + left);
            Check.is("starts", house.advance(2000), Math.min(500, 500 + left));
            Check.is("the clock", house.count(0), left < 0 ? 2000 : 998);
            Check.is("the first", house.start(0, 0), 0);
            Check.is("the 499th", house.start(498, 0), 996);
            if (left >= 0) {
                Check.is("the last one", house.start(499, 0), 998);
            }
            Check.fails("no more", Check.MISSING, () -> house.start(Math.min(500, (int)
                    house.count(3)), 0));
            Check.is("the rest", house.advance(2000), Math.max(0, left));
        }
        JobHouse late = new JobHouse();
        late.make(1, 0, 1, 0, 0, 0, 0);
        late.stall(5000);
        Check.is("all at one time", late.advance(100), 500);
        Check.is("the clock stays there", late.count(0), 5000);
    }

    private static void leftToTheNext() {
        JobHouse house = new JobHouse();
        house.workers(1);
        house.make(1, 0, 1, 0, 0, 0, 499);
        once(house, 499, 3, 0);
        once(house, 499, 0, -1);
        once(house, 499, 0, -2);
        Check.is("five hundred", house.advance(10000), 500);
        Check.is("the clock", house.count(0), 499);
        Check.is("the last one runs", house.job(1, 0), 2);
        Check.is("the others are pending", house.job(2, 0) + house.job(3, 0), 2);
        Check.is("no worker is free", house.advance(0), 0);
        house.workers(2);
        starts(house, 0, new long[] {499, 2}, new long[] {499, 3});
        Check.is("nothing more", house.advance(3), 0);
        Check.is("all are done", house.count(1), 0);
        // With workers to spare: of two that are due the second one waits for the next call.
        JobHouse many = new JobHouse();
        many.workers(8);
        many.make(1, 1, 1, 0, 9, 0, 0);
        once(many, 400, 99, 0);
        once(many, 498, 0, 0);
        once(many, 498, 0, 0);
        Check.is("five hundred, too", many.advance(499), 500);
        Check.is("the clock is at its 500th", many.count(0), 498);
        Check.is("one of two went", many.count(1), 3);
        starts(many, 0, new long[] {498, 3});
        Check.is("the running one is not yet freed", many.count(2), 1);
        many.advance(1);
        Check.is("but then", many.count(2), 0);
    }

    private static void howMany() {
        JobHouse house = new JobHouse();
        Check.is("none", house.advance(10), 0);
        once(house, 1, 5, 0);
        once(house, 2, 0, 0);
        Check.is("two", house.advance(3), 2);
        Check.is("none that is freed counts", house.advance(10), 0);
        Check.is("of all", house.count(3), 2);
    }

    private static void nothingDone() {
        JobHouse house = new JobHouse();
        house.make(1, 0, 10, 5, 0, 0, 0);
        once(house, 3, 0, 0);
        house.advance(0);
        house.stall(0);
        house.stall(50);
        Check.is("the clock", house.count(0), 50);
        Check.is("running, with its old end", house.job(0, 4), 5);
        Check.is("of its run", house.job(0, 1), 0);
        Check.is("pending", house.job(1, 0), 1);
        Check.is("one start", house.count(3), 1);
        Check.is("which stays the latest", house.start(0, 1), 0);
        house.stall(5);
        Check.is("once more", house.count(0), 55);
        Check.is("still running", house.count(2), 1);
    }

    private static void freedLate() {
        long[] due = {57, 10, 57, 50, 57, 60};
        for (int policy = 0; policy < 3; policy++) {
            JobHouse house = new JobHouse();
            house.make(2, 0, 10, 3, 0, policy, 0);
            house.make(1, 0, 10, 3, 0, policy, 0);
            once(house, 0, 3, 0);
            house.advance(0);
            house.stall(57);
            Check.is("all run", house.count(2), 3);
            house.workers(0);
            Check.is("no worker", house.advance(0), 0);
            Check.is("a fixed delay", house.job(0, 1), due[2 * policy] + 10);
            Check.is("a fixed rate", house.job(1, 1), due[2 * policy + 1]);
            Check.is("the other one went", house.count(1), 2);
            house.workers(4);
            Check.is("what is due", house.advance(0), policy < 2 ? 1 : 0);
            if (policy < 2) {
                Check.is("starts at the clock", house.start(0, 0), 57);
                Check.is("and ends behind it", house.job(1, 4), 60);
            }
        }
    }

    private static void endOfTime() {
        JobHouse house = at(END - 10);
        once(house, 10, 0, 0);
        for (long n : new long[] {11, WAY}) {
            Check.fails("advance " + n, Check.RANGE, () -> house.advance(n));
            Check.failsVoid("stall " + n, Check.RANGE, () -> house.stall(n));
        }
        Check.is("nothing changed", house.count(0), END - 10);
        Check.is("to the end", house.advance(10), 1);
        Check.is("the clock", house.count(0), END);
        Check.fails("one more", Check.RANGE, () -> house.advance(1));
        Check.failsVoid("one more", Check.RANGE, () -> house.stall(1));
        Check.is("it can stand there", house.advance(0), 0);
        house.stall(0);
        JobHouse stalled = at(END - 10);
        stalled.stall(10);
        Check.is("a stall to the end", stalled.count(0), END);
    }

    private static void latestAdvance() {
        JobHouse house = new JobHouse();
        once(house, 1, 0, 0);
        once(house, 2, 9, 0);
        house.advance(5);
        long[][] due = {{1, 0, 1}, {2, 1, 2}};
        Check.fails("a way too long", Check.RANGE, () -> house.advance(WAY + 1));
        Check.fails("a negative one", Check.RANGE, () -> house.advance(-1));
        house.stall(1);
        once(house, 0, 0, 0);
        house.cancel(1);
        house.close(true, true);
        for (int i = 0; i < 2; i++) {
            for (int what = 0; what < 3; what++) {
                Check.is("start " + i, house.start(i, what), due[i][what]);
            }
        }
        house.advance(0);
        Check.fails("the latest had none", Check.MISSING, () -> house.start(0, 0));
        Check.fails("nor a second one", Check.MISSING, () -> house.start(1, 0));
    }

    private static void noStart() {
        JobHouse house = new JobHouse();
        int[] none = {Integer.MIN_VALUE, -1, 0, 1, 499, 500, Integer.MAX_VALUE};
        for (int i : none) {
            Check.fails("before any " + i, Check.MISSING, () -> house.start(i, 0));
        }
        house.make(1, 0, 1, 0, 0, 0, 0);
        house.advance(600);
        for (int i : new int[] {Integer.MIN_VALUE, -1, 500, 501, Integer.MAX_VALUE}) {
            Check.fails("of five hundred " + i, Check.MISSING, () -> house.start(i, 0));
        }
        Check.is("the first", house.start(0, 0), 0);
        Check.is("the last", house.start(499, 0), 499);
        house.advance(1);
        Check.is("the one of the next call", house.start(0, 0), 500);
        Check.fails("no second one", Check.MISSING, () -> house.start(1, 0));
    }

    private static void whatsOfStart() {
        JobHouse house = new JobHouse();
        once(house, 3, 0, 0);
        house.stall(5);
        house.advance(0);
        long[] due = {5, 0, 3};
        for (int what = 0; what <= 2; what++) {
            Check.is("what " + what, house.start(0, what), due[what]);
        }
        for (int what : new int[] {-1, 3, Integer.MIN_VALUE, Integer.MAX_VALUE}) {
            Check.fails("what " + what, Check.RANGE, () -> house.start(0, what));
            Check.fails("ahead of none", Check.RANGE, () -> house.start(-1, what));
            Check.fails("ahead of none", Check.RANGE, () -> house.start(1, what));
        }
    }
}
