/** Promise 1: a new object. */
final class NewObjectTest {
    public static void main(String[] args) {
        JobHouse house = new JobHouse();
        long[] counts = {0, 0, 0, 0, 0, -1};
        for (int what = 0; what < counts.length; what++) {
            Check.is("count " + what, house.count(what), counts[what]);
        }
        for (int j = 0; j < 100; j++) {
            int number = j;
            Check.fails("job " + j, Check.MISSING, () -> house.job(number, 0));
        }
        Check.fails("start 0", Check.MISSING, () -> house.start(0, 0));
        for (int z = 0; z < 8; z++) {
            Check.is("zone " + z, house.local(z, Check.at("2024-07-01T12:00:00"), 7), 0);
        }
        for (int k = 0; k < 16; k++) {
            Check.is("next of cron " + k, house.next(k, 0, -1, 0), -1);
            Check.is("last of cron " + k, house.last(k, 0, -1, Check.END_OF_TIME), -1);
        }
        for (int c = 0; c < 4; c++) {
            Check.is("calendar " + c, house.holiday(c, 7, false), 0);
        }
        Check.is("workers", house.workers(4), 4);
        Check.is("first job", house.make(0, 0, 0, 0, 0, 0, 0), 0);
        Check.is("first order", house.job(0, 3), 0);
        Check.is("not closed", house.close(false, false), 1);
        Check.is("another object is new", new JobHouse().count(1), 0);
        Check.finish();
    }
}
