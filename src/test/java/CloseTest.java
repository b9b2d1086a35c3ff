/** Promise 16: close. */
final class CloseTest {
    public static void main(String[] args) {
        for (int i = 0; i < 4; i++) {
            closing((i & 1) != 0, (i & 2) != 0);
        }
        stoppedOnesGo();
        Check.finish();
    }

    /** Jobs 0 to 3 are running, 4 to 7 pending, of the kinds 0, 1, 2 and cron each. */
    private static JobHouse house() {
        JobHouse house = new JobHouse();
        Check.cron(house, 0, "0 0 0 * * ?");
        for (int i = 0; i < 2; i++) {
            house.make(0, 0, 0, 100, 0, 0, 0);
            house.make(1, 0, 100000, 100, 0, 0, 0);
            house.make(2, 0, 100000, 100, 0, 0, 0);
            house.makeCron(0, 0, -1, 100, 0, 0, 0);
            if (i == 0) {
                house.stall(86400000);
                house.advance(0);
            }
        }
        return house;
    }

    private static void closing(boolean once, boolean periodic) {
        String what = "close(" + once + ", " + periodic + ") ";
        JobHouse house = house();
        int left = 8 - (once ? 1 : 0) - (periodic ? 3 : 0);
        Check.is(what, house.close(once, periodic), left);
        Check.is(what + "count", house.count(1), left);
        Check.is(what + "running", house.count(2), 4);
        for (int j = 0; j < 8; j++) {
            boolean meant = j % 4 == 0 ? once : periodic;
            int number = j;
            if (j >= 4 && meant) {
                Check.fails(what + j, Check.MISSING, () -> house.job(number, 0));
            } else {
                int running = j % 4 != 0 && periodic ? 3 : 2;
                Check.is(what + j, house.job(j, 0), j < 4 ? running : 1);
            }
        }
        Check.fails(what + "again", Check.CLOSED, () -> house.close(once, periodic));
        Check.fails(what + "make", Check.CLOSED, () -> house.make(0, 0, 0, 0, 0, 0, 0));
        Check.fails(what + "makeCron", Check.CLOSED, () -> house.makeCron(0, 0, 0, 0, 0, 0, 0));
        Check.is(what + "nothing else changed", house.count(1), left);
    }

    private static void stoppedOnesGo() {
        JobHouse house = house();
        house.close(false, true);
        Check.is("the pending one starts", house.advance(100), 1);
        Check.is("it alone is left", house.count(1), 1);
        Check.is("it is of kind 0", house.job(4, 0), 2);
        Check.is("all others work", house.workers(1), 4);
        Check.is("and it goes, too", house.advance(100) + house.count(1), 0);
        JobHouse open = house();
        open.close(false, false);
        open.advance(100);
        Check.is("the rate makes up", open.job(1, 0), 2);
        Check.is("the delay waits", open.job(2, 0), 1);
        Check.is("an empty house", new JobHouse().close(true, true), 0);
    }
}
