/** Promise 11: makeCron. */
final class MakeCronTest {
    private static final long DAY = 86400000L;
    private static final long NOON = DAY / 2;

    public static void main(String[] args) {
        first();
        ranges();
        orderOfThrows();
        asTheyAreWhenSought();
        policies();
        noFireAnyMore();
        Check.finish();
    }

    private static JobHouse atNoon() {
        JobHouse house = new JobHouse();
        Check.cron(house, 2, "0 0 12 * * ?");
        return house;
    }

    private static void first() {
        JobHouse house = atNoon();
        Check.zone(house, 3, "-60");
        house.holiday(1, 0, true);
        Check.is("number", house.makeCron(2, 0, -1, 5, 0, 0, 0), 0);
        Check.is("nominal", house.job(0, 1), NOON);
        Check.is("pending", house.job(0, 0), 1);
        Check.is("order", house.job(0, 3), 0);
        house.makeCron(2, 3, -1, 0, 0, 0, 0);
        Check.is("in a zone", house.job(1, 1), NOON + 3600000);
        house.makeCron(2, 3, 1, 0, 0, 0, 0);
        Check.is("with a calendar", house.job(2, 1), NOON + 3600000 + DAY);
        house.stall(NOON);
        house.makeCron(2, 0, 3, 0, 0, 0, 0);
        Check.is("behind the clock", house.job(3, 1), NOON + DAY);
        Check.is("nothing starts", house.count(3), 0);
        Check.is("what is due starts", house.advance(0), 1);
        Check.is("it runs", house.job(0, 4), NOON + 5);
    }

    private static void ranges() {
        JobHouse house = atNoon();
        long[][] wrong = {{-1, 0, 0, 0, 0, 0}, {16, 0, 0, 0, 0, 0}, {2, -1, 0, 0, 0, 0},
            {2, 8, 0, 0, 0, 0}, {2, 0, -2, 0, 0, 0}, {2, 0, 4, 0, 0, 0}, {2, 0, 0, -1, 0, 0},
            {2, 0, 0, (1L << 40) + 1, 0, 0}, {2, 0, 0, 0, -1, 0}, {2, 0, 0, 0, 3, 0},
            {2, 0, 0, 0, 0, -1}};
        for (long[] w : wrong) {
            Check.fails("makeCron " + java.util.Arrays.toString(w), Check.RANGE,
                    () -> house.makeCron((int) w[0], (int) w[1], (int) w[2], w[3], 0, (int) w[4],
                            (int) w[5]));
        }
        Check.is("no job came", house.count(1), 0);
        Check.is("the ends are fine",
                house.makeCron(2, 7, 3, 1L << 40, Integer.MIN_VALUE, 2, Integer.MAX_VALUE), 0);
    }

    private static void orderOfThrows() {
        JobHouse house = atNoon();
        Check.fails("no cron was told", Check.BROKEN, () -> house.makeCron(0, 0, -1, 0, 0, 0, 0));
        for (int j = 0; j < 100; j++) {
            house.makeCron(2, 0, -1, 0, 0, 0, 0);
        }
        Check.fails("full", Check.FULL, () -> house.makeCron(2, 0, -1, 0, 0, 0, 0));
        Check.fails("no fire ahead of full", Check.BROKEN,
                () -> house.makeCron(0, 0, -1, 0, 0, 0, 0));
        house.close(false, false);
        Check.fails("closed ahead of no fire", Check.CLOSED,
                () -> house.makeCron(0, 0, -1, 0, 0, 0, 0));
        Check.fails("range ahead of closed", Check.RANGE,
                () -> house.makeCron(16, 0, -1, 0, 0, 0, 0));
    }

    private static void asTheyAreWhenSought() {
        JobHouse house = atNoon();
        house.makeCron(2, 4, 0, 0, 0, 0, 0);
        Check.cron(house, 2, "0 0 6 * * ?");
        Check.is("its first time stays", house.job(0, 1), NOON);
        house.advance(NOON);
        Check.is("the new cron", house.job(0, 1), DAY + DAY / 4);
        Check.zone(house, 4, "+60");
        house.advance(DAY);
        Check.is("the new zone", house.job(0, 1), 2 * DAY + DAY / 4 - 3600000);
        house.holiday(0, 3, true);
        house.advance(DAY);
        Check.is("the new holiday", house.job(0, 1), 4 * DAY + DAY / 4 - 3600000);
    }

    private static void policies() {
        JobHouse house = atNoon();
        for (int policy = 0; policy < 3; policy++) {
            house.makeCron(2, 0, -1, 0, 0, policy, 0);
        }
        house.advance(NOON);
        house.stall(3 * DAY);
        Check.is("all, the first and the last, the first", house.advance(0), 3 + 2 + 1);
        long[][] due = {{0, 1}, {1, 1}, {2, 1}, {0, 2}, {0, 3}, {1, 3}};
        for (int i = 0; i < due.length; i++) {
            Check.is("job of start " + i, house.start(i, 1), due[i][0]);
            Check.is("nominal of start " + i, house.start(i, 2), due[i][1] * DAY + NOON);
        }
        for (int policy = 0; policy < 3; policy++) {
            Check.is("the next, policy " + policy, house.job(policy, 1), 4 * DAY + NOON);
        }
    }

    private static void noFireAnyMore() {
        JobHouse house = new JobHouse();
        Check.cron(house, 0, "0 0 0 2 1 ? 1970");
        house.makeCron(0, 0, -1, 10, 0, 0, 0);
        house.makeCron(0, 0, -1, 0, 0, 1, 0);
        Check.is("both start", house.advance(DAY), 2);
        Check.is("one is gone", house.count(1), 1);
        house.advance(10);
        Check.is("both are gone", house.count(1), 0);
        Check.fails("none behind the clock", Check.BROKEN,
                () -> house.makeCron(0, 0, -1, 0, 0, 0, 0));
    }
}
