/** Promises 1, 12, 13, 16, 17 and 19: each sentence that names a boundary has its own test. */
final class JobEdgesTest {
    private static final long DAY = 86400000L;
    private static final int[] NO_JOBS = {Integer.MIN_VALUE, -1, 0, 99, 100, Integer.MAX_VALUE};

    public static void main(String[] args) {
        Check.sentence("As said; no JOBS.", JobEdgesTest::newObject);
        Check.sentence("The CLOCK is at 0 at first.", () -> Check.is("the clock",
                new JobHouse().count(0), 0));
        Check.sentence("An object is used for at most 512 calls after it has been made",
                JobEdgesTest::manyCalls);
        Check.sentence("j a JOB: else NoSuchElementException (so for all; also j that is not"
                + " 0 .. 99)", JobEdgesTest::noJob);
        Check.sentence("PENDING: it goes, 1", JobEdgesTest::cancelPending);
        Check.sentence("RUNNING (stopped already, too): it is stopped (it goes when it is FREED),"
                + " 2", JobEdgesTest::cancelRunning);
        Check.sentence("n 0 .. 8: so many WORKERS.", JobEdgesTest::workers);
        Check.sentence("WORKERS: 0 .. 8 of them (4 at first).", JobEdgesTest::fourAtFirst);
        Check.sentence("RUNNING ones go on.", JobEdgesTest::runningGoOn);
        Check.sentence("Nothing starts. Answers how many there were.",
                JobEdgesTest::workersStartNothing);
        Check.sentence("No JOB can be made any more (nor can it be closed again).",
                JobEdgesTest::closed);
        Check.sentence("PENDING ones of kind 0 go if once", () -> closing(true, false));
        Check.sentence("others (CRON ones, too) if periodic, and RUNNING others are stopped if"
                + " periodic", () -> closing(false, true));
        Check.sentence("Answers how many JOBS are there.", JobEdgesTest::howManyAreThere);
        Check.sentence("what 0: 1 PENDING, 2 RUNNING, 3 RUNNING and stopped",
                JobEdgesTest::states);
        Check.sentence("1 its NOMINAL time (RUNNING: of this run)", JobEdgesTest::nominal);
        Check.sentence("2 STARTS so far", JobEdgesTest::startsSoFar);
        Check.sentence("3 its ORDER", JobEdgesTest::order);
        Check.sentence("4 the end of its run, -1 if it is PENDING.", JobEdgesTest::endOfRun);
        Check.sentence("what 0 .. 4.", JobEdgesTest::whatsOfJob);
        Check.sentence("what 0 the CLOCK, 1 JOBS, 2 RUNNING ones, 3 STARTS of all, 4 bytes of the"
                + " TAPE", JobEdgesTest::counts);
        Check.sentence("5 PLACE of the latest zone or cron that was not out of range",
                JobEdgesTest::latestPlace);
        Check.sentence("-1 if it told none (it was not broken), or before", JobEdgesTest::noPlace);
        Check.sentence("what 0 .. 5.", JobEdgesTest::whatsOfCount);
        Check.finish();
    }

    private static void newObject() {
        JobHouse house = new JobHouse();
        long[] counts = {0, 0, 0, 0, 0, -1};
        for (int what = 0; what < 6; what++) {
            Check.is("count " + what, house.count(what), counts[what]);
        }
        for (int j = 0; j < 100; j++) {
            int number = j;
            Check.fails("job " + j, Check.MISSING, () -> house.job(number, 0));
        }
        Check.fails("no start", Check.MISSING, () -> house.start(0, 0));
        Check.is("nothing is to be done", house.advance(1L << 43), 0);
        Check.is("it is open", house.close(true, true), 0);
    }

    /** All of the 512, of the calls that leave the most behind them. */
    private static void manyCalls() {
        JobHouse starts = new JobHouse();
        starts.make(1, 0, 1, 0, 0, 0, 0);
        for (int call = 2; call <= 511; call++) {
            Check.is("starts of call " + call, starts.advance(1000), 500);
        }
        Check.is("starts of all", starts.count(3), 510 * 500);
        JobHouse jobs = new JobHouse();
        for (int call = 1; call <= 509; call += 2) {
            Check.is("made by call " + call, jobs.make(0, 0, 0, 0, 0, 0, 0), 0);
            Check.is("and cancelled", jobs.cancel(0), 1);
        }
        jobs.make(0, 0, 0, 0, 0, 0, 0);
        Check.is("its order", jobs.job(0, 3), 255);
    }

    private static void noJob() {
        JobHouse house = new JobHouse();
        for (int j : NO_JOBS) {
            Check.fails("cancel " + j, Check.MISSING, () -> house.cancel(j));
            for (int what = 0; what <= 4; what++) {
                int part = what;
                Check.fails("job " + j, Check.MISSING, () -> house.job(j, part));
            }
        }
        house.make(0, 0, 0, 0, 0, 0, 0);
        house.make(0, 0, 0, 0, 0, 0, 0);
        house.cancel(0);
        Check.fails("gone", Check.MISSING, () -> house.cancel(0));
        Check.is("the other one is there", house.cancel(1), 1);
        Check.fails("gone, too", Check.MISSING, () -> house.job(1, 0));
    }

    private static void cancelPending() {
        JobHouse house = new JobHouse();
        for (int kind = 0; kind < 3; kind++) {
            house.make(kind, 5, kind == 0 ? 0 : 5, 0, 0, 0, 0);
        }
        Check.cron(house, 0, "* * * * * ?");
        house.makeCron(0, 0, -1, 0, 0, 0, 0);
        for (int j = 0; j < 4; j++) {
            int number = j;
            Check.is("job " + j, house.cancel(j), 1);
            Check.fails("it went", Check.MISSING, () -> house.job(number, 0));
            Check.is("so many are left", house.count(1), 3 - j);
        }
        Check.is("none starts", house.advance(5000), 0);
        house.make(1, 0, 10, 4, 0, 0, 0);
        house.advance(4);
        Check.is("pending again", house.cancel(0), 1);
    }

    private static void cancelRunning() {
        JobHouse house = new JobHouse();
        for (int kind = 0; kind < 3; kind++) {
            house.make(kind, 0, kind == 0 ? 0 : 5, 10, 0, 0, 0);
        }
        house.advance(9);
        for (int j = 0; j < 3; j++) {
            Check.is("job " + j, house.cancel(j), 2);
            Check.is("stopped already", house.cancel(j), 2);
            Check.is("it is there", house.job(j, 0), 3);
            Check.is("with its end", house.job(j, 4), 10);
        }
        Check.is("all run", house.count(2), 3);
        house.stall(1);
        Check.is("still", house.cancel(0), 2);
        Check.is("nothing starts", house.advance(0), 0);
        Check.is("they went", house.count(1) + house.count(2), 0);
    }

    private static void workers() {
        for (int n = 0; n <= 8; n++) {
            JobHouse house = new JobHouse();
            house.workers(n);
            for (int j = 0; j < 12; j++) {
                house.make(0, 0, 0, 10, 0, 0, 0);
            }
            Check.is(n + " start", house.advance(9), n);
            Check.is(n + " run", house.count(2), n);
            Check.is("then as many", house.advance(1), Math.min(n, 12 - n));
        }
        JobHouse house = new JobHouse();
        for (int n : new int[] {-1, 9, Integer.MIN_VALUE, Integer.MAX_VALUE}) {
            Check.fails("workers " + n, Check.RANGE, () -> house.workers(n));
        }
        Check.is("still four", house.workers(0), 4);
    }

    private static void fourAtFirst() {
        JobHouse house = new JobHouse();
        for (int j = 0; j < 6; j++) {
            house.make(0, 0, 0, 10, 0, 0, 0);
        }
        Check.is("four start", house.advance(0), 4);
        Check.is("there are four", house.workers(8), 4);
    }

    private static void runningGoOn() {
        JobHouse house = new JobHouse();
        house.workers(8);
        for (int j = 0; j < 10; j++) {
            house.make(0, 0, 0, 10 + j, 0, 0, 0);
        }
        house.advance(0);
        house.workers(0);
        Check.is("eight run", house.count(2), 8);
        for (int j = 0; j < 8; j++) {
            Check.is("with its end", house.job(j, 4), 10 + j);
        }
        house.workers(2);
        Check.is("none starts while two or more run", house.advance(15), 0);
        Check.is("two run", house.count(2), 2);
        Check.is("one starts when one runs", house.advance(1), 1);
        Check.is("at that time", house.start(0, 0), 16);
    }

    private static void workersStartNothing() {
        JobHouse house = new JobHouse();
        house.make(0, 0, 0, 10, 0, 0, 0);
        int before = 4;
        for (int n : new int[] {0, 8, 8, 1, 0, 4}) {
            Check.is("workers " + n, house.workers(n), before);
            before = n;
        }
        Check.is("none runs", house.count(2), 0);
        Check.is("no start", house.count(3), 0);
        Check.is("pending", house.job(0, 0), 1);
    }

    /** Of the kinds 0, 1, 2 and cron: 0 to 3 running, 4 to 7 pending. */
    private static JobHouse eightJobs() {
        JobHouse house = new JobHouse();
        Check.cron(house, 0, "0 0 0 * * ?");
        for (int i = 0; i < 2; i++) {
            for (int kind = 0; kind < 3; kind++) {
                house.make(kind, 0, kind == 0 ? 0 : DAY, 100, 0, 0, 0);
            }
            house.makeCron(0, 0, -1, 100, 0, 0, 0);
            if (i == 0) {
                house.stall(DAY);
                house.advance(0);
            }
        }
        return house;
    }

    private static void closed() {
        for (int i = 0; i < 4; i++) {
            boolean once = i % 2 == 1;
            boolean periodic = i >= 2;
            JobHouse house = eightJobs();
            house.close(once, periodic);
            for (int kind = 0; kind < 3; kind++) {
                int k = kind;
                Check.fails("kind " + kind, Check.CLOSED,
                        () -> house.make(k, 0, k == 0 ? 0 : 1, 0, 0, 0, 0));
            }
            Check.fails("cron", Check.CLOSED, () -> house.makeCron(0, 0, -1, 0, 0, 0, 0));
            Check.fails("again", Check.CLOSED, () -> house.close(true, true));
            Check.fails("and again", Check.CLOSED, () -> house.close(false, false));
            int left = 8 - (once ? 1 : 0) - (periodic ? 3 : 0);
            Check.is("the others are there", house.count(1), left);
            Check.is("workers can be told", house.workers(8), 4);
            Check.is("pending ones start", house.advance(0), (once ? 0 : 1) + (periodic ? 0 : 2));
        }
    }

    private static void closing(boolean once, boolean periodic) {
        JobHouse house = eightJobs();
        house.close(once, periodic);
        for (int j = 0; j < 8; j++) {
            int number = j;
            boolean meant = j % 4 == 0 ? once : periodic;
            if (j < 4) {
                Check.is("running " + j, house.job(j, 0), meant && j != 0 ? 3 : 2);
            } else if (meant) {
                Check.fails("pending " + j, Check.MISSING, () -> house.job(number, 0));
            } else {
                Check.is("pending " + j, house.job(j, 0), 1);
            }
        }
        Check.is("all running ones run", house.count(2), 4);
        house.workers(8);
        Check.is("pending ones that stay start", house.advance(0), once ? 2 : 1);
        house.advance(100);
        Check.is("stopped ones and those of kind 0 went", house.count(1), once ? 6 : 0);
    }

    private static void howManyAreThere() {
        Check.is("neither", eightJobs().close(false, false), 8);
        Check.is("once", eightJobs().close(true, false), 7);
        Check.is("periodic", eightJobs().close(false, true), 5);
        Check.is("both", eightJobs().close(true, true), 4);
        Check.is("none at all", new JobHouse().close(false, false), 0);
        JobHouse full = new JobHouse();
        for (int j = 0; j < 100; j++) {
            full.make(0, 0, 0, 0, 0, 0, 0);
        }
        Check.is("a hundred go", full.close(true, false), 0);
        Check.fails("the last one, too", Check.MISSING, () -> full.job(99, 0));
    }

    private static void states() {
        JobHouse house = new JobHouse();
        house.make(1, 5, 10, 3, 0, 0, 0);
        Check.is("pending", house.job(0, 0), 1);
        house.advance(4);
        Check.is("till its time", house.job(0, 0), 1);
        house.advance(1);
        Check.is("running", house.job(0, 0), 2);
        house.advance(2);
        Check.is("till its end", house.job(0, 0), 2);
        house.advance(1);
        Check.is("pending again", house.job(0, 0), 1);
        house.advance(7);
        house.cancel(0);
        Check.is("stopped", house.job(0, 0), 3);
        house.stall(100);
        Check.is("till it is freed", house.job(0, 0), 3);
    }

    private static void nominal() {
        JobHouse house = new JobHouse();
        house.make(1, 5, 10, 3, 0, 0, 0);
        Check.is("pending", house.job(0, 1), 5);
        house.stall(7);
        house.advance(0);
        Check.is("of this run, which began later", house.job(0, 1), 5);
        house.advance(2);
        Check.is("till its end", house.job(0, 1), 5);
        house.advance(1);
        Check.is("the next one", house.job(0, 1), 15);
    }

    private static void startsSoFar() {
        JobHouse house = new JobHouse();
        house.make(1, 1, 1, 0, 0, 0, 0);
        Check.is("none", house.job(0, 2), 0);
        house.advance(3);
        Check.is("three", house.job(0, 2), 3);
        house.advance(1000);
        Check.is("five hundred more", house.job(0, 2), 503);
        house.cancel(0);
        house.make(0, 0, 0, 5, 0, 0, 0);
        Check.is("a new one has none", house.job(0, 2), 0);
        house.advance(0);
        Check.is("one, as it runs", house.job(0, 2), 1);
    }

    private static void order() {
        JobHouse house = new JobHouse();
        for (int j = 0; j < 100; j++) {
            house.make(1, 0, 10, 5, 0, 0, 0);
            Check.is("of a new one", house.job(j, 3), j);
        }
        house.advance(0);
        Check.is("of a running one", house.job(3, 3), 3);
        house.cancel(7);
        house.make(0, 0, 0, 0, 0, 0, 0);
        Check.is("of one that takes a number again", house.job(7, 3), 100);
        house.advance(5);
        Check.is("of one that was freed", house.job(3, 3), 3);
    }

    private static void endOfRun() {
        JobHouse house = new JobHouse();
        house.make(2, 5, 1L << 40, 7, 0, 0, 0);
        Check.is("pending", house.job(0, 4), -1);
        house.stall(6);
        house.advance(0);
        Check.is("its duration behind its start", house.job(0, 4), 13);
        house.cancel(0);
        Check.is("stopped", house.job(0, 4), 13);
        house.make(2, 0, 100, 7, 0, 0, 0);
        house.advance(7);
        Check.is("pending again", house.job(1, 4), -1);
        JobHouse late = new JobHouse();
        late.stall(1L << 43);
        late.stall(Check.END_OF_TIME - (1L << 43));
        late.make(0, 0, 0, 1L << 40, 0, 0, 0);
        late.advance(0);
        Check.is("beyond the end of TIME", late.job(0, 4), Check.END_OF_TIME + (1L << 40));
    }

    private static void whatsOfJob() {
        JobHouse house = new JobHouse();
        house.make(0, 9, 0, 0, 0, 0, 0);
        for (int what : new int[] {-1, 5, Integer.MIN_VALUE, Integer.MAX_VALUE}) {
            Check.fails("what " + what, Check.RANGE, () -> house.job(0, what));
            for (int j : NO_JOBS) {
                Check.fails("ahead of no job", Check.RANGE, () -> house.job(j, what));
            }
        }
        long[] due = {1, 9, 0, 0, -1};
        for (int what = 0; what <= 4; what++) {
            Check.is("what " + what, house.job(0, what), due[what]);
        }
    }

    private static void all(String what, JobHouse house, long... due) {
        for (int part = 0; part < due.length; part++) {
            Check.is(what + " " + part, house.count(part), due[part]);
        }
    }

    private static void counts() {
        JobHouse house = new JobHouse();
        for (int j = 0; j < 100; j++) {
            house.make(1, 0, 1L << 40, j < 8 ? 1L << 40 : 0, j < 8 ? 1 : 0, 0, 0);
        }
        all("made", house, 0, 100, 0, 0, 0);
        house.workers(8);
        house.feed(0, 0, 0, 0, 0);
        house.advance(5);
        all("eight run", house, 5, 100, 8, 8, 20);
        house.stall(7);
        house.cancel(0);
        house.cancel(99);
        house.end(3);
        all("one is stopped, one went", house, 12, 99, 8, 8, 3);
        house.stall(1L << 43);
        Check.is("the clock far out", house.count(0), (1L << 43) + 12);
    }

    private static void latestPlace() {
        JobHouse house = new JobHouse();
        Check.feed(house, "+6x");
        Check.failsVoid("zone", Check.BROKEN, () -> house.zone(0));
        Check.is("of zone", house.count(5), 2);
        Check.feed(house, "* * * x");
        Check.is("feed and end tell none", house.count(5), 2);
        Check.failsVoid("zone -1", Check.RANGE, () -> house.zone(-1));
        Check.failsVoid("zone 8", Check.RANGE, () -> house.zone(8));
        Check.failsVoid("cron -1", Check.RANGE, () -> house.cron(-1));
        Check.failsVoid("cron 16", Check.RANGE, () -> house.cron(16));
        Check.is("nor do those out of range", house.count(5), 2);
        Check.failsVoid("cron", Check.BROKEN, () -> house.cron(0));
        Check.is("of cron", house.count(5), 6);
        Check.failsVoid("an empty tape", Check.BROKEN, () -> house.zone(0));
        Check.is("at its end", house.count(5), 0);
        Check.cronPlace(house, "* * * *" + " ".repeat(373));
        Check.is("far behind", house.count(5), 380);
        Check.fails("a search out of range", Check.RANGE, () -> house.next(-1, 0, 0, 0));
        Check.fails("a cron without fires", Check.BROKEN,
                () -> house.makeCron(3, 0, -1, 0, 0, 0, 0));
        Check.is("no other call tells one", house.count(5), 380);
    }

    private static void noPlace() {
        JobHouse house = new JobHouse();
        Check.is("before", house.count(5), -1);
        Check.failsVoid("out of range", Check.RANGE, () -> house.zone(9));
        Check.is("before, still", house.count(5), -1);
        Check.zone(house, 0, "+0");
        Check.is("a good zone", house.count(5), -1);
        Check.cronPlace(house, "x");
        Check.is("a broken cron", house.count(5), 0);
        Check.zone(house, 0, "+0");
        Check.is("a good zone behind it", house.count(5), -1);
        Check.zonePlace(house, "x");
        Check.cron(house, 0, "* * * * * ?");
        Check.is("a good cron behind a broken zone", house.count(5), -1);
        Check.failsVoid("out of range", Check.RANGE, () -> house.cron(16));
        Check.is("it stays", house.count(5), -1);
    }

    private static void whatsOfCount() {
        JobHouse house = new JobHouse();
        for (int what : new int[] {-1, 6, Integer.MIN_VALUE, Integer.MAX_VALUE}) {
            Check.fails("what " + what, Check.RANGE, () -> house.count(what));
        }
        Check.is("what 0", house.count(0), 0);
        Check.is("what 5", house.count(5), -1);
    }
}
