/** Promise 14: advance, and the terms about what is done at a time. */
final class AdvanceTest {
    public static void main(String[] args) {
        ranges();
        whoStartsFirst();
        freedBeforeStarts();
        fixedRate();
        fixedDelay();
        failing();
        noDuration();
        fiveHundred();
        fiveHundredthWithDuration();
        waitingForAWorker();
        endOfTime();
        Check.finish();
    }

    private static void starts(String what, JobHouse house, long n, long[][] due) {
        Check.is(what, house.advance(n), due.length);
        for (int i = 0; i < due.length; i++) {
            for (int part = 0; part < 3; part++) {
                Check.is(what + ", start " + i + " part " + part, house.start(i, part),
                        due[i][part]);
            }
        }
    }

    private static void ranges() {
        JobHouse house = new JobHouse();
        Check.fails("-1", Check.RANGE, () -> house.advance(-1));
        Check.fails("too far", Check.RANGE, () -> house.advance((1L << 43) + 1));
        Check.is("0", house.advance(0), 0);
        Check.is("the farthest", house.advance(1L << 43), 0);
        Check.is("the clock", house.count(0), 1L << 43);
        Check.fails("beyond the end", Check.RANGE, () -> house.advance(1L << 43));
        Check.fails("one beyond", Check.RANGE,
                () -> house.advance(Check.END_OF_TIME - (1L << 43) + 1));
        Check.is("nothing changed", house.count(0), 1L << 43);
        Check.is("to the end", house.advance(Check.END_OF_TIME - (1L << 43)), 0);
        Check.is("the clock", house.count(0), Check.END_OF_TIME);
        Check.fails("no more", Check.RANGE, () -> house.advance(1));
        Check.is("standing there", house.advance(0), 0);
    }

    private static void whoStartsFirst() {
        JobHouse house = new JobHouse();
        house.make(0, 5, 0, 0, 9, 0, 0);
        house.make(0, 3, 0, 0, 0, 0, 0);
        house.make(0, 3, 0, 0, 7, 0, 0);
        house.make(0, 3, 0, 0, 7, 0, 0);
        house.make(0, 3, 0, 0, Integer.MIN_VALUE, 0, 0);
        house.make(0, 3, 0, 0, Integer.MAX_VALUE, 0, 0);
        house.stall(10);
        starts("nominal, priority, order", house, 0, new long[][] {{10, 5, 3}, {10, 2, 3},
            {10, 3, 3}, {10, 1, 3}, {10, 4, 3}, {10, 0, 5}});
        house.make(0, 1, 0, 0, 0, 0, 0);
        house.make(0, 1, 0, 0, 0, 0, 0);
        house.cancel(0);
        house.make(0, 1, 0, 0, 0, 0, 0);
        starts("order, not number", house, 1, new long[][] {{11, 1, 11}, {11, 0, 11}});
    }

    private static void freedBeforeStarts() {
        JobHouse house = new JobHouse();
        house.workers(1);
        house.make(0, 0, 0, 10, 0, 0, 0);
        house.make(0, 10, 0, 10, 0, 0, 0);
        house.make(1, 0, 5, 5, -1, 0, 3);
        starts("the worker is free at once", house, 30, new long[][] {{0, 0, 0}, {10, 2, 0},
            {15, 2, 5}, {20, 1, 10}, {30, 2, 10}});
        Check.is("it fails next", house.advance(4), 0);
        Check.is("not yet", house.count(1), 1);
        house.advance(1);
        Check.is("gone", house.count(1), 0);
    }

    private static void fixedRate() {
        for (int policy = 0; policy < 3; policy++) {
            JobHouse house = new JobHouse();
            house.make(1, 3, 10, 25, 0, policy, 0);
            house.advance(3);
            Check.is("runs", house.job(0, 0), 2);
            house.advance(24);
            Check.is("still", house.job(0, 0), 2);
            house.advance(1);
            // Freed at 28: 13 and 23 were missed.
            long[] nominals = {13, 23, 33};
            Check.is("policy " + policy, house.job(0, 1), nominals[policy]);
            Check.is("running or not", house.job(0, 0), policy < 2 ? 2 : 1);
        }
        for (int policy = 0; policy < 3; policy++) {
            JobHouse house = new JobHouse();
            house.make(1, 0, 10, 10, 0, policy, 0);
            house.advance(10);
            // Freed at 10, which is not behind the clock.
            Check.is("just then, policy " + policy, house.job(0, 1), policy < 2 ? 10 : 20);
            house.stall(5);
            house.advance(0);
            Check.is("none missed", house.job(0, 1), policy < 2 ? 10 : 20);
        }
    }

    private static void fixedDelay() {
        for (int policy = 0; policy < 3; policy++) {
            JobHouse house = new JobHouse();
            house.make(2, 1, 10, 4, 0, policy, 0);
            starts("delay", house, 35, new long[][] {{1, 0, 1}, {15, 0, 15}, {29, 0, 29}});
            Check.is("pending", house.job(0, 0), 1);
            Check.is("the end and its period", house.job(0, 1), 43);
        }
    }

    private static void failing() {
        JobHouse house = new JobHouse();
        house.make(1, 0, 10, 1, 0, 0, 2);
        house.make(1, 0, 10, 0, 0, 0, 1);
        house.make(1, 0, 10, 0, 0, 0, 0);
        house.make(0, 0, 0, 0, 0, 0, 5);
        Check.is("starts", house.advance(10), 4 + 2);
        Check.is("the one that fails first is gone", house.count(1), 2);
        Check.is("the second run fails, but at its end", house.job(0, 0), 2);
        house.advance(1);
        Check.fails("gone", Check.MISSING, () -> house.job(0, 0));
        Check.is("that never fails", house.advance(100), 10);
    }

    private static void noDuration() {
        JobHouse house = new JobHouse();
        house.workers(1);
        house.make(1, 0, 2, 0, 0, 0, 0);
        house.make(0, 1, 0, 5, 0, 0, 0);
        house.stall(5);
        starts("freed before the next one starts", house, 0, new long[][] {{5, 0, 0}, {5, 1, 1}});
        Check.is("the worker is taken", house.count(2), 1);
        starts("then it makes up", house, 5, new long[][] {{10, 0, 2}, {10, 0, 4}, {10, 0, 6},
            {10, 0, 8}, {10, 0, 10}});
        Check.is("never running behind a call", house.count(2), 0);
    }

    private static void fiveHundred() {
        JobHouse house = new JobHouse();
        house.make(1, 100, 2, 0, 0, 0, 0);
        house.make(0, 98 + 1000, 0, 1, -1, 0, 0);
        Check.is("five hundred", house.advance(5000), 500);
        Check.is("the clock is at the last start", house.count(0), 100 + 2 * 499);
        Check.is("it is freed", house.job(0, 0), 1);
        Check.is("its next time", house.job(0, 1), 1100);
        Check.is("the other one is left", house.job(1, 0), 1);
        Check.is("the last start", house.start(499, 0), 1098);
        Check.fails("no other start", Check.MISSING, () -> house.start(500, 0));
        Check.is("done by the next call", house.advance(0), 1);
        Check.is("at the same time", house.start(0, 0), 1098);
        Check.is("499 more", house.advance(998), 499);
        Check.is("the clock is there then", house.count(0), 1098 + 998);
        Check.is("starts of all", house.count(3), 1000);
    }

    private static void fiveHundredthWithDuration() {
        JobHouse house = new JobHouse();
        house.make(1, 1, 1, 0, 0, 0, 499);
        house.make(0, 600, 0, 7, 0, 0, 0);
        Check.is("exactly five hundred", house.advance(10000), 500);
        Check.is("the clock stays", house.count(0), 600);
        Check.is("it runs", house.job(1, 4), 607);
        Check.is("the rest", house.advance(10000), 0);
        Check.is("the clock", house.count(0), 10600);
        Check.is("gone", house.count(1), 0);
    }

    private static void waitingForAWorker() {
        JobHouse house = new JobHouse();
        house.workers(2);
        house.make(0, 0, 0, 10, 0, 0, 0);
        house.make(0, 0, 0, 4, 0, 0, 0);
        house.make(0, 2, 0, 10, 0, 0, 0);
        house.make(0, 3, 0, 10, 9, 0, 0);
        starts("nominal ahead of priority", house, 20, new long[][] {{0, 0, 0}, {0, 1, 0},
            {4, 2, 2}, {10, 3, 3}});
    }

    private static void endOfTime() {
        JobHouse house = new JobHouse();
        house.stall(1L << 43);
        house.stall(Check.END_OF_TIME - (1L << 43) - 20);
        house.make(1, 0, 10, 0, 0, 0, 0);
        house.make(2, 1, 10, 0, 0, 0, 0);
        starts("to the end of time", house, 20, new long[][] {
            {Check.END_OF_TIME - 20, 0, Check.END_OF_TIME - 20},
            {Check.END_OF_TIME - 19, 1, Check.END_OF_TIME - 19},
            {Check.END_OF_TIME - 10, 0, Check.END_OF_TIME - 10},
            {Check.END_OF_TIME - 9, 1, Check.END_OF_TIME - 9},
            {Check.END_OF_TIME, 0, Check.END_OF_TIME}});
        Check.is("no nominal time is left", house.count(1), 0);
    }
}
