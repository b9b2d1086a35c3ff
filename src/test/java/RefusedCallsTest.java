import java.util.function.Consumer;

/** What is thrown, in which order, and that a call that throws changes nothing but as said. */
final class RefusedCallsTest {
    private static final long SPAN = 1L << 40;
    private static final long WAY = 1L << 43;

    public static void main(String[] args) {
        Check.sentence("What is thrown, in this order: IllegalArgumentException: a number out of"
                + " range; IllegalStateException: the service is closed; then as the call says.",
                RefusedCallsTest::order);
        Check.sentence("A call that throws changes nothing, but as said.", () -> {
            openOnes();
            fullOnes();
            closedOnes();
            brokenTexts();
        });
        Check.finish();
    }

    /** Jobs that run, are stopped, wait, and are due; starts, holidays, texts, a tape, a place. */
    private static JobHouse house() {
        JobHouse house = new JobHouse();
        Check.zone(house, 1, "+60 60 M3.5.0/120 M10.5.0/180");
        Check.cron(house, 2, "0 30 2 ? * SUN-TUE");
        Check.cron(house, 3, "0 0 0 29 2 ? 1970");
        for (int day = 3; day <= 7; day++) {
            house.holiday(1, day, true);
        }
        house.workers(3);
        house.make(1, 0, 10, 7, 0, 1, 0);
        house.make(2, 0, 10, 7, 0, 0, 3);
        house.make(0, 2, 0, 40, 0, 0, 0);
        house.makeCron(2, 1, 1, 50, 3, 2, 0);
        house.make(0, 5, 0, 0, -4, 0, 0);
        house.advance(25);
        house.cancel(2);
        house.stall(11);
        Check.cronPlace(house, "* * * x");
        Check.feed(house, "+75 9x");
        return house;
    }

    /** All that can be seen, also of what is still to come, as one text. */
    private static String look(JobHouse house) {
        StringBuilder text = new StringBuilder();
        for (int what = 0; what < 6; what++) {
            text.append(house.count(what)).append(' ');
        }
        for (int i = 0; i < 8; i++) {
            for (int what = 0; what < 5; what++) {
                int number = i;
                int part = what;
                text.append(answer(() -> house.job(number, part))).append(' ');
                text.append(answer(() -> house.start(number, part % 3))).append(' ');
            }
            text.append(house.local(i, Check.at("2024-07-01T00:00:00"), 7)).append(' ');
            text.append(house.next(i, 1, 1, 0)).append(' ').append(house.last(2, 1, i % 4, SPAN))
                    .append(' ');
        }
        for (int c = 0; c < 4; c++) {
            text.append(house.holiday(c, 9, false)).append(' ');
        }
        text.append(house.workers(4)).append(' ').append(answer(() -> readTape(house)));
        text.append(' ').append(house.count(5)).append(' ');
        text.append(answer(() -> numberAndOrder(house))).append(' ');
        for (int i = 0; i < 5; i++) {
            text.append(house.advance(20000000)).append(' ').append(house.count(1)).append(' ');
            text.append(answer(() -> house.start(0, 1))).append(' ');
        }
        text.append(answer(() -> house.close(false, true)));
        return text.toString();
    }

    private static long readTape(JobHouse house) {
        house.zone(6);
        return house.local(6, 0, 7);
    }

    private static long numberAndOrder(JobHouse house) {
        int j = house.make(0, 1, 0, 0, 0, 0, 0);
        return 1000 * house.job(j, 3) + j;
    }

    private static String answer(java.util.function.LongSupplier call) {
        try {
            return "" + call.getAsLong();
        } catch (RuntimeException e) {
            return e.getClass().getSimpleName();
        }
    }

    /** The call on one house, no call on its twin: both look alike afterwards. */
    private static void refused(String what, Consumer<JobHouse> before,
            Class<? extends RuntimeException> due, Consumer<JobHouse> call) {
        JobHouse house = house();
        JobHouse twin = house();
        before.accept(house);
        before.accept(twin);
        Check.failsVoid(what, due, () -> call.accept(house));
        String got = look(house);
        String wanted = look(twin);
        boolean same = got.equals(wanted);
        Check.is(what + (same ? "" : ": " + got + ", due is " + wanted), same ? 1 : 0, 1);
    }

    private static void nothing(JobHouse house) {
    }

    private static void outOfRange(String what, Consumer<JobHouse> call) {
        refused(what, RefusedCallsTest::nothing, Check.RANGE, call);
        refused(what + ", closed", house -> house.close(false, false), Check.RANGE, call);
    }

    private static void openOnes() {
        outOfRange("end -1", house -> house.end(-1));
        outOfRange("end 7", house -> house.end(7));
        outOfRange("zone -1", house -> house.zone(-1));
        outOfRange("zone 8", house -> house.zone(8));
        outOfRange("cron -1", house -> house.cron(-1));
        outOfRange("cron 16", house -> house.cron(16));
        outOfRange("holiday of 4", house -> house.holiday(4, 0, true));
        outOfRange("holiday -1", house -> house.holiday(1, -1, true));
        outOfRange("holiday 120530", house -> house.holiday(1, 120530, false));
        outOfRange("next of 16", house -> house.next(16, 0, 0, 0));
        outOfRange("next at -1", house -> house.next(2, 0, 0, -1));
        outOfRange("last of zone 8", house -> house.last(2, 8, 0, 0));
        outOfRange("last of calendar 4", house -> house.last(2, 1, 4, 0));
        outOfRange("local of zone 8", house -> house.local(8, 0, 0));
        outOfRange("local what 8", house -> house.local(1, 0, 8));
        outOfRange("make of kind 3", house -> house.make(3, 0, 1, 0, 0, 0, 0));
        outOfRange("make delay", house -> house.make(0, SPAN + 1, 0, 0, 0, 0, 0));
        outOfRange("make period", house -> house.make(0, 0, 1, 0, 0, 0, 0));
        outOfRange("make duration", house -> house.make(0, 0, 0, SPAN + 1, 0, 0, 0));
        outOfRange("make policy", house -> house.make(0, 0, 0, 0, 0, 3, 0));
        outOfRange("make fails", house -> house.make(0, 0, 0, 0, 0, 0, -1));
        outOfRange("makeCron of 16", house -> house.makeCron(16, 0, 0, 0, 0, 0, 0));
        outOfRange("makeCron fails", house -> house.makeCron(2, 0, 0, 0, 0, 0, -1));
        outOfRange("workers -1", house -> house.workers(-1));
        outOfRange("workers 9", house -> house.workers(9));
        outOfRange("advance -1", house -> house.advance(-1));
        outOfRange("advance too far", house -> house.advance(WAY + 1));
        outOfRange("stall -1", house -> house.stall(-1));
        outOfRange("stall too far", house -> house.stall(WAY + 1));
        outOfRange("job what", house -> house.job(0, 5));
        outOfRange("start what", house -> house.start(0, 3));
        outOfRange("count what", house -> house.count(6));
        refused("makeCron, no cron was told", RefusedCallsTest::nothing, Check.BROKEN,
                house -> house.makeCron(0, 0, 0, 0, 0, 0, 0));
        refused("makeCron, no fire", RefusedCallsTest::nothing, Check.BROKEN,
                house -> house.makeCron(3, 0, -1, 0, 0, 0, 0));
        refused("cancel", RefusedCallsTest::nothing, Check.MISSING, house -> house.cancel(50));
        refused("cancel -1", RefusedCallsTest::nothing, Check.MISSING, house -> house.cancel(-1));
        refused("cancel 100", RefusedCallsTest::nothing, Check.MISSING,
                house -> house.cancel(100));
        refused("job", RefusedCallsTest::nothing, Check.MISSING, house -> house.job(50, 0));
        refused("start", RefusedCallsTest::nothing, Check.MISSING, house -> house.start(500, 0));
    }

    private static void fullOnes() {
        Consumer<JobHouse> fillTape = house -> {
            while (house.count(4) <= 380) {
                house.feed(-1, 0, 1, 2, 3);
            }
        };
        refused("feed", fillTape, Check.FULL, house -> house.feed(0x2b2b2b2b, 0, 0, 0, 0));
        Consumer<JobHouse> fillCalendar = house -> {
            int day = 10;
            while (house.holiday(1, day, true) < 200) {
                day++;
            }
        };
        refused("holiday", fillCalendar, Check.FULL, house -> house.holiday(1, 5000, true));
        Consumer<JobHouse> fillJobs = house -> {
            while (house.count(1) < 100) {
                house.make(0, SPAN, 0, 0, 0, 0, 0);
            }
        };
        refused("make", fillJobs, Check.FULL, house -> house.make(0, 0, 0, 0, 0, 0, 0));
        refused("makeCron", fillJobs, Check.FULL, house -> house.makeCron(2, 0, 0, 0, 0, 0, 0));
        refused("makeCron, no fire", fillJobs, Check.BROKEN,
                house -> house.makeCron(3, 0, -1, 0, 0, 0, 0));
    }

    private static void closedOnes() {
        Consumer<JobHouse> close = house -> house.close(true, false);
        refused("make", close, Check.CLOSED, house -> house.make(0, 0, 0, 0, 0, 0, 0));
        refused("makeCron", close, Check.CLOSED, house -> house.makeCron(2, 0, 0, 0, 0, 0, 0));
        refused("makeCron, no fire", close, Check.CLOSED,
                house -> house.makeCron(0, 0, 0, 0, 0, 0, 0));
        refused("close", close, Check.CLOSED, house -> house.close(true, true));
    }

    /** A broken text empties the tape and tells its place; so does the twin, by end and by feed. */
    private static void brokenTexts() {
        Consumer<JobHouse> spoil = house -> {
            house.end(0);
            Check.feed(house, "x");
        };
        for (int number = 0; number < 8; number++) {
            int n = number;
            sameAs("zone " + n, spoil, house -> house.zone(n));
            sameAs("cron " + n, spoil, house -> house.cron(n));
        }
    }

    private static void sameAs(String what, Consumer<JobHouse> before, Consumer<JobHouse> call) {
        JobHouse house = house();
        JobHouse twin = house();
        before.accept(house);
        before.accept(twin);
        Check.failsVoid(what, Check.BROKEN, () -> call.accept(house));
        // A text for a number that nobody looks at.
        Check.failsVoid("the twin", Check.BROKEN, () -> twin.cron(15));
        Check.is(what + " changes nothing else", look(house).equals(look(twin)) ? 1 : 0, 1);
    }

    private static void order() {
        JobHouse full = new JobHouse();
        Check.cron(full, 2, "* * * * * ?");
        for (int j = 0; j < 100; j++) {
            full.make(0, 0, 0, 0, 0, 0, 0);
        }
        Check.fails("range, full", Check.RANGE, () -> full.make(0, -1, 0, 0, 0, 0, 0));
        Check.fails("range, no fire, full", Check.RANGE,
                () -> full.makeCron(0, 0, -1, 0, 0, 0, -1));
        Check.fails("no fire, full", Check.BROKEN, () -> full.makeCron(0, 0, -1, 0, 0, 0, 0));
        Check.fails("full", Check.FULL, () -> full.make(0, 0, 0, 0, 0, 0, 0));
        Check.fails("full, by cron", Check.FULL, () -> full.makeCron(2, 0, -1, 0, 0, 0, 0));
        full.close(false, false);
        Check.fails("range, closed, full", Check.RANGE, () -> full.make(0, -1, 0, 0, 0, 0, 0));
        Check.fails("closed, full", Check.CLOSED, () -> full.make(0, 0, 0, 0, 0, 0, 0));
        Check.fails("range, closed, no fire, full", Check.RANGE,
                () -> full.makeCron(0, 0, -1, 0, 0, 0, -1));
        Check.fails("closed, no fire, full", Check.CLOSED,
                () -> full.makeCron(0, 0, -1, 0, 0, 0, 0));
        Check.fails("closed, full, by cron", Check.CLOSED,
                () -> full.makeCron(2, 0, -1, 0, 0, 0, 0));
        Check.fails("job: range, no such job", Check.RANGE, () -> full.job(100, 5));
        Check.fails("start: range, no such start", Check.RANGE, () -> full.start(0, 3));
        closedDoesNotMatter(full);
    }

    private static void closedDoesNotMatter(JobHouse closed) {
        Check.fails("job", Check.MISSING, () -> closed.job(100, 0));
        Check.fails("start", Check.MISSING, () -> closed.start(0, 0));
        Check.fails("cancel", Check.MISSING, () -> closed.cancel(100));
        Check.is("cancel one", closed.cancel(0), 1);
        Check.is("feed", closed.feed(0, 0, 0, 0, 0), 20);
        Check.is("end", closed.end(0), 0);
        Check.failsVoid("zone", Check.BROKEN, () -> closed.zone(0));
        Check.failsVoid("cron", Check.BROKEN, () -> closed.cron(0));
        Check.zone(closed, 0, "+1");
        Check.cron(closed, 0, "* * * * * ?");
        Check.is("holiday", closed.holiday(0, 0, true), 1);
        Check.is("next", closed.next(0, 0, -1, 0), 1000);
        Check.is("last", closed.last(0, 0, -1, 0), 0);
        Check.is("local", closed.local(0, 0, 7), 1);
        Check.is("workers", closed.workers(8), 4);
        Check.is("advance", closed.advance(1), 99);
        closed.stall(1);
        Check.is("stall", closed.count(0), 2);
    }
}
