/** Promise 12: cancel. */
final class CancelTest {
    public static void main(String[] args) {
        JobHouse house = new JobHouse();
        Check.fails("none", Check.MISSING, () -> house.cancel(0));
        Check.fails("-1", Check.MISSING, () -> house.cancel(-1));
        Check.fails("100", Check.MISSING, () -> house.cancel(100));
        Check.fails("the least int", Check.MISSING, () -> house.cancel(Integer.MIN_VALUE));
        house.make(1, 0, 10, 4, 0, 0, 0);
        house.make(0, 5, 0, 0, 0, 0, 0);
        Check.is("pending", house.cancel(1), 1);
        Check.fails("it is gone", Check.MISSING, () -> house.cancel(1));
        Check.is("one is left", house.count(1), 1);
        house.advance(1);
        Check.is("running", house.cancel(0), 2);
        Check.is("stopped", house.job(0, 0), 3);
        Check.is("stopped already", house.cancel(0), 2);
        Check.is("it runs on", house.count(2), 1);
        Check.is("its end stays", house.job(0, 4), 4);
        house.advance(2);
        Check.is("still there", house.job(0, 0), 3);
        house.advance(1);
        Check.fails("it went when it was freed", Check.MISSING, () -> house.job(0, 0));
        Check.is("no jobs", house.count(1) + house.count(2), 0);
        Check.is("nothing starts again", house.advance(1000), 0);
        Check.is("its number is free", house.make(0, 0, 0, 0, 0, 0, 0), 0);
        anEndedOneThatIsNotFreed();
        Check.finish();
    }

    private static void anEndedOneThatIsNotFreed() {
        JobHouse house = new JobHouse();
        house.make(2, 0, 10, 4, 0, 0, 0);
        house.advance(0);
        house.stall(100);
        Check.is("it is running till it is freed", house.cancel(0), 2);
        Check.is("nothing starts", house.advance(1000), 0);
        Check.is("it is gone", house.count(1), 0);
    }
}
