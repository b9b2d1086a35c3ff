/** Promise 18: start. */
final class StartTest {
    public static void main(String[] args) {
        JobHouse house = new JobHouse();
        Check.fails("before any", Check.MISSING, () -> house.start(0, 0));
        Check.fails("what -1", Check.RANGE, () -> house.start(0, -1));
        Check.fails("what 3 ahead of none", Check.RANGE, () -> house.start(-1, 3));
        Check.fails("-1", Check.MISSING, () -> house.start(-1, 0));
        house.make(0, 0, 0, 0, 0, 0, 0);
        house.make(0, 7, 0, 5, 0, 0, 0);
        house.stall(3);
        house.advance(10);
        long[][] due = {{3, 0, 0}, {7, 1, 7}};
        looks(house, due);
        Check.fails("a third", Check.MISSING, () -> house.start(2, 0));
        Check.fails("an advance that throws", Check.RANGE, () -> house.advance(-1));
        looks(house, due);
        house.stall(1);
        house.make(0, 0, 0, 0, 0, 0, 0);
        looks(house, due);
        house.cancel(0);
        house.advance(0);
        Check.fails("the latest had none", Check.MISSING, () -> house.start(0, 0));
        Check.finish();
    }

    private static void looks(JobHouse house, long[][] due) {
        for (int i = 0; i < due.length; i++) {
            for (int what = 0; what < 3; what++) {
                Check.is("start(" + i + ", " + what + ")", house.start(i, what), due[i][what]);
            }
        }
    }
}
