/** Promise 10: make. */
final class MakeTest {
    private static final long SPAN = 1L << 40;

    public static void main(String[] args) {
        edges();
        ranges();
        numbers();
        orderOfThrows();
        firstTimeIsATime();
        Check.finish();
    }

    private static void edges() {
        JobHouse house = new JobHouse();
        Check.is("later", house.make(0, SPAN, 0, SPAN, Integer.MAX_VALUE, 2, Integer.MAX_VALUE), 0);
        Check.is("rate", house.make(1, 0, SPAN, 0, Integer.MIN_VALUE, 0, 0), 1);
        Check.is("delay", house.make(2, 3, 1, 5, 0, 1, 1), 2);
        Check.is("nominal", house.job(0, 1), SPAN);
        Check.is("nominal", house.job(2, 1), 3);
        for (int j = 0; j < 3; j++) {
            Check.is("pending", house.job(j, 0), 1);
            Check.is("no start", house.job(j, 2), 0);
            Check.is("order", house.job(j, 3), j);
            Check.is("no end", house.job(j, 4), -1);
        }
        Check.is("nothing starts", house.count(2) + house.count(3), 0);
        house.stall(1000);
        house.make(0, 7, 0, 0, 0, 0, 0);
        Check.is("from the clock on", house.job(3, 1), 1007);
    }

    private static void ranges() {
        JobHouse house = new JobHouse();
        long[][] wrong = {{-1, 0, 0, 0, 0, 0}, {3, 0, 1, 0, 0, 0}, {0, -1, 0, 0, 0, 0},
            {0, SPAN + 1, 0, 0, 0, 0}, {0, 0, 1, 0, 0, 0}, {0, 0, -1, 0, 0, 0}, {1, 0, 0, 0, 0, 0},
            {2, 0, 0, 0, 0, 0}, {1, 0, -1, 0, 0, 0}, {1, 0, SPAN + 1, 0, 0, 0},
            {2, 0, SPAN + 1, 0, 0, 0}, {0, 0, 0, -1, 0, 0}, {0, 0, 0, SPAN + 1, 0, 0},
            {0, 0, 0, 0, -1, 0}, {0, 0, 0, 0, 3, 0}, {0, 0, 0, 0, 0, -1},
            {0, 0, 0, 0, 0, Integer.MIN_VALUE}, {0, Long.MAX_VALUE, 0, 0, 0, 0},
            {1, 0, Long.MIN_VALUE, 0, 0, 0}};
        for (long[] w : wrong) {
            Check.fails("make " + java.util.Arrays.toString(w), Check.RANGE, () -> house.make(
                    (int) w[0], w[1], w[2], w[3], 0, (int) w[4], (int) w[5]));
        }
        Check.is("no job came", house.count(1), 0);
        house.make(0, 0, 0, 0, 0, 0, 0);
        Check.is("no order was used", house.job(0, 3), 0);
    }

    private static void numbers() {
        JobHouse house = new JobHouse();
        for (int j = 0; j < 100; j++) {
            Check.is("job " + j, house.make(0, 1000 + j, 0, 0, 0, 0, 0), j);
        }
        Check.fails("the 101st", Check.FULL, () -> house.make(0, 0, 0, 0, 0, 0, 0));
        Check.is("a hundred", house.count(1), 100);
        house.cancel(57);
        house.cancel(11);
        house.cancel(99);
        Check.is("the least", house.make(2, 0, 1, 0, 0, 0, 0), 11);
        Check.is("its order", house.job(11, 3), 100);
        Check.is("the next", house.make(1, 0, 1, 0, 0, 0, 0), 57);
        Check.is("its order", house.job(57, 3), 101);
        Check.is("the last", house.make(0, 0, 0, 0, 0, 0, 0), 99);
        Check.fails("full again", Check.FULL, () -> house.make(1, 0, 1, 0, 0, 0, 0));
    }

    private static void orderOfThrows() {
        JobHouse house = new JobHouse();
        for (int j = 0; j < 100; j++) {
            house.make(0, 0, 0, 0, 0, 0, 0);
        }
        Check.fails("range ahead of full", Check.RANGE, () -> house.make(3, 0, 0, 0, 0, 0, 0));
        house.close(false, false);
        Check.fails("range ahead of closed", Check.RANGE, () -> house.make(0, 0, 0, 0, 0, 0, -1));
        Check.fails("closed ahead of full", Check.CLOSED, () -> house.make(0, 0, 0, 0, 0, 0, 0));
    }

    private static void firstTimeIsATime() {
        JobHouse house = new JobHouse();
        house.stall(1L << 43);
        house.stall(Check.END_OF_TIME - (1L << 43) - 10);
        Check.is("at the end of time", house.make(0, 10, 0, SPAN, 0, 0, 0), 0);
        Check.fails("behind it", Check.RANGE, () -> house.make(0, 11, 0, 0, 0, 0, 0));
        Check.is("a rate, too", house.make(1, 10, SPAN, 0, 0, 0, 0), 1);
        Check.is("both start", house.advance(10), 2);
        Check.is("the rate has no next time", house.count(1), 1);
        Check.is("the other one runs", house.job(0, 4), Check.END_OF_TIME + SPAN);
        house.close(false, false);
        Check.fails("the range still comes first", Check.RANGE,
                () -> house.make(0, 1, 0, 0, 0, 0, 0));
    }
}
