/** Promise 15: stall. */
final class StallTest {
    public static void main(String[] args) {
        ranges();
        nothingIsDone();
        freedLate();
        Check.finish();
    }

    private static void ranges() {
        JobHouse house = new JobHouse();
        Check.failsVoid("-1", Check.RANGE, () -> house.stall(-1));
        Check.failsVoid("too far", Check.RANGE, () -> house.stall((1L << 43) + 1));
        house.stall(0);
        Check.is("0", house.count(0), 0);
        house.stall(1L << 43);
        Check.failsVoid("beyond", Check.RANGE,
                () -> house.stall(Check.END_OF_TIME - (1L << 43) + 1));
        house.stall(Check.END_OF_TIME - (1L << 43));
        Check.is("to the end of time", house.count(0), Check.END_OF_TIME);
        Check.failsVoid("one more", Check.RANGE, () -> house.stall(1));
    }

    private static void nothingIsDone() {
        JobHouse house = new JobHouse();
        house.make(0, 5, 0, 0, 0, 0, 0);
        house.make(1, 0, 10, 3, 0, 0, 0);
        house.advance(0);
        house.stall(50);
        Check.is("the clock", house.count(0), 50);
        Check.is("no start", house.count(3), 1);
        Check.is("still running", house.job(1, 0), 2);
        Check.is("with its old end", house.job(1, 4), 3);
        Check.is("still pending", house.job(0, 0), 1);
        Check.is("the latest advance's starts stay", house.start(0, 1), 1);
    }

    private static void freedLate() {
        JobHouse house = new JobHouse();
        house.make(2, 0, 10, 3, 0, 0, 0);
        house.make(1, 0, 10, 3, 0, 1, 0);
        house.make(1, 0, 10, 3, 0, 2, 0);
        house.advance(0);
        house.stall(57);
        Check.is("one is made up for", house.advance(0), 1);
        Check.is("at the clock", house.start(0, 0), 57);
        Check.is("a fixed delay counts from the clock", house.job(0, 1), 67);
        Check.is("once: the last one missed", house.job(1, 1), 50);
        Check.is("skip: the first behind the clock", house.job(2, 1), 60);
    }
}
