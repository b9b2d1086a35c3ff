/** Promise 19: count. */
final class CountTest {
    public static void main(String[] args) {
        JobHouse house = new JobHouse();
        Check.fails("-1", Check.RANGE, () -> house.count(-1));
        Check.fails("6", Check.RANGE, () -> house.count(6));
        house.make(1, 0, 10, 4, 0, 0, 0);
        house.make(0, 5, 0, 4, 0, 0, 0);
        house.make(0, 500, 0, 4, 0, 0, 0);
        all("made", house, new long[] {0, 3, 0, 0, 0, -1});
        house.advance(6);
        all("advanced", house, new long[] {6, 3, 1, 2, 0, -1});
        house.stall(100);
        all("stalled", house, new long[] {106, 3, 1, 2, 0, -1});
        house.cancel(2);
        house.advance(0);
        all("advanced again", house, new long[] {106, 1, 1, 3, 0, -1});
        Check.feed(house, "+60 x");
        all("fed", house, new long[] {106, 1, 1, 3, 5, -1});
        Check.failsVoid("broken", Check.BROKEN, () -> house.zone(0));
        all("broken", house, new long[] {106, 1, 1, 3, 0, 4});
        Check.feed(house, "+60");
        all("the place stays", house, new long[] {106, 1, 1, 3, 3, 4});
        Check.failsVoid("out of range", Check.RANGE, () -> house.cron(99));
        all("so it does", house, new long[] {106, 1, 1, 3, 3, 4});
        house.zone(1);
        all("not broken", house, new long[] {106, 1, 1, 3, 0, -1});
        Check.failsVoid("an empty cron", Check.BROKEN, () -> house.cron(1));
        all("broken at 0", house, new long[] {106, 1, 1, 3, 0, 0});
        Check.finish();
    }

    private static void all(String what, JobHouse house, long[] due) {
        for (int part = 0; part < due.length; part++) {
            Check.is(what + " " + part, house.count(part), due[part]);
        }
    }
}
