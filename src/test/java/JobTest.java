/** Promise 17: job. */
final class JobTest {
    public static void main(String[] args) {
        JobHouse house = new JobHouse();
        Check.fails("what -1", Check.RANGE, () -> house.job(0, -1));
        Check.fails("what 5 ahead of no job", Check.RANGE, () -> house.job(-1, 5));
        Check.fails("no job", Check.MISSING, () -> house.job(0, 0));
        Check.fails("-1", Check.MISSING, () -> house.job(-1, 0));
        Check.fails("100", Check.MISSING, () -> house.job(100, 4));
        house.make(0, 50, 0, 0, 0, 0, 0);
        house.make(1, 3, 10, 4, 0, 0, 0);
        all("pending", house, 1, new long[] {1, 3, 0, 1, -1});
        house.advance(3);
        all("running", house, 1, new long[] {2, 3, 1, 1, 7});
        house.stall(20);
        all("running, its end is past", house, 1, new long[] {2, 3, 1, 1, 7});
        house.advance(0);
        all("running late", house, 1, new long[] {2, 13, 2, 1, 27});
        house.cancel(1);
        all("stopped", house, 1, new long[] {3, 13, 2, 1, 27});
        house.advance(4);
        Check.fails("gone", Check.MISSING, () -> house.job(1, 1));
        house.make(2, 0, 5, 0, 0, 0, 0);
        all("a new one with its number", house, 1, new long[] {1, 27, 0, 2, -1});
        house.advance(0);
        all("run and freed", house, 1, new long[] {1, 32, 1, 2, -1});
        Check.finish();
    }

    private static void all(String what, JobHouse house, int j, long[] due) {
        for (int part = 0; part < due.length; part++) {
            Check.is(what + " " + part, house.job(j, part), due[part]);
        }
    }
}
