/** Promises 2 and 3: feed and end. */
final class TapeTest {
    public static void main(String[] args) {
        lengths();
        bytesComeHighestFirst();
        endKeepsTheFirstBytes();
        Check.finish();
    }

    private static void lengths() {
        JobHouse house = new JobHouse();
        for (int i = 1; i <= 20; i++) {
            Check.is("feed " + i, house.feed(-1, 0, 1, 2, 3), 20 * i);
        }
        Check.fails("feed 21", Check.FULL, () -> house.feed(0, 0, 0, 0, 0));
        Check.is("a full tape stays", house.count(4), 400);
        Check.is("end 381", house.end(381), 381);
        Check.fails("one byte too many", Check.FULL, () -> house.feed(0, 0, 0, 0, 0));
        Check.is("end 380", house.end(380), 380);
        Check.is("just enough room", house.feed(0, 0, 0, 0, 0), 400);
        Check.fails("end -1", Check.RANGE, () -> house.end(-1));
        Check.fails("end 401", Check.RANGE, () -> house.end(401));
        Check.is("end of all", house.end(400), 400);
        Check.is("end 0", house.end(0), 0);
        Check.fails("end beyond the length", Check.RANGE, () -> house.end(1));
        Check.is("count", house.count(4), 0);
    }

    private static void bytesComeHighestFirst() {
        JobHouse house = new JobHouse();
        // "+841" and "5555": the number is out of range at its first byte, 1.
        house.feed(0x2b383431, 0x35353535, 0, 0, 0);
        house.end(4);
        Check.failsVoid("+841", Check.BROKEN, () -> house.zone(0));
        Check.is("place", house.count(5), 1);
        house.feed(0x2b363020, 0x20363020, 0x4d332e35, 0x2e302f31, 0x32302080);
        house.end(20);
        Check.failsVoid("a byte above 127", Check.BROKEN, () -> house.zone(0));
        Check.is("place of it", house.count(5), 19);
    }

    private static void endKeepsTheFirstBytes() {
        JobHouse house = new JobHouse();
        house.feed(0x2b363020, 0, 0, 0, 0);
        house.end(2);
        house.feed(0x35202020, 0, 0, 0, 0);
        house.end(3);
        house.zone(3);
        Check.is("+6 and 5", house.local(3, 0, 7), 65);
        Check.is("the tape is empty", house.count(4), 0);
    }
}
