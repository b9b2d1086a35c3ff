/** Promise 13: workers. */
final class WorkersTest {
    public static void main(String[] args) {
        JobHouse house = new JobHouse();
        Check.is("four at first", house.workers(8), 4);
        Check.is("eight then", house.workers(0), 8);
        Check.fails("-1", Check.RANGE, () -> house.workers(-1));
        Check.fails("9", Check.RANGE, () -> house.workers(9));
        Check.is("none then", house.workers(4), 0);
        for (int j = 0; j < 10; j++) {
            house.make(0, 0, 0, 100, 0, 0, 0);
        }
        Check.is("as many as workers", house.advance(0), 4);
        house.workers(8);
        Check.is("nothing starts by itself", house.count(2), 4);
        Check.is("four more", house.advance(1), 4);
        house.workers(2);
        Check.is("running ones go on", house.count(2), 8);
        Check.is("none starts", house.advance(98), 0);
        Check.is("two start when the first four are freed", house.advance(2), 2);
        Check.is("the second four are freed, too", house.count(2), 2);
        noWorkers();
        Check.finish();
    }

    private static void noWorkers() {
        JobHouse house = new JobHouse();
        house.make(1, 0, 10, 3, 0, 1, 0);
        house.make(1, 0, 10, 0, 0, 1, 0);
        house.advance(0);
        house.workers(0);
        Check.is("none starts", house.advance(1000), 0);
        Check.is("but the running one is freed", house.job(0, 0), 1);
        Check.is("at its end", house.job(0, 1), 10);
        house.workers(1);
        Check.is("one worker, the first by order, then the other", house.advance(0), 1);
        Check.is("the first", house.start(0, 1), 0);
        Check.is("at the clock", house.start(0, 0), 1000);
    }
}
