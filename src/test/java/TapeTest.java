/** Promises 2 and 3: feed and end. */
final class TapeTest {
    public static void main(String[] args) {
        lengths();
        bytesComeHighestFirst();
        endKeepsTheFirstBytes();
        whatIsCutOffIsNotRead();
        fullTapes();
        Check.finish();
    }

    private static void lengths() {
        JobHouse house = new JobHouse();
        for (int i = 1; i <= 20; i++) {
            Check.is("feed " + i, house.feed(-1, 0, 1, 2, 3), 20 * i);
        }
        Check.fails("feed 21", Check.FULL, () -> house.feed(0, 0, 0, 0, 0));
        Check.is("a full tape stays", house.count(4), 400);
        Check.is("end 381", house.end(381), 381);
        Check.fails("one byte too many", Check.FULL, () -> house.feed(0, 0, 0, 0, 0));
        Check.is("end 380", house.end(380), 380);
        Check.is("just enough room", house.feed(0, 0, 0, 0, 0), 400);
        Check.fails("end -1", Check.RANGE, () -> house.end(-1));
        Check.fails("end 401", Check.RANGE, () -> house.end(401));
        Check.is("end of all", house.end(400), 400);
        Check.is("end 0", house.end(0), 0);
        Check.fails("end beyond the length", Check.RANGE, () -> house.end(1));
        Check.is("count", house.count(4), 0);
    }

    private static void bytesComeHighestFirst() {
        JobHouse house = new JobHouse();
        // "+841" and "5555": the number is out of range at its first byte, 1.
        house.feed(0x2b383431, 0x35353535, 0, 0, 0);
        house.end(4);
        Check.failsVoid("+841", Check.BROKEN, () -> house.zone(0));
        Check.is("place", house.count(5), 1);
        house.feed(0x2b363020, 0x20363020, 0x4d332e35, 0x2e302f31, 0x32302080);
        house.end(20);
        Check.failsVoid("a byte above 127", Check.BROKEN, () -> house.zone(0));
        Check.is("place of it", house.count(5), 19);
    }

    private static void endKeepsTheFirstBytes() {
        JobHouse house = new JobHouse();
        house.feed(0x2b363020, 0, 0, 0, 0);
        house.end(2);
        house.feed(0x35202020, 0, 0, 0, 0);
        house.end(3);
        house.zone(3);
        Check.is("+6 and 5", house.local(3, 0, 7), 65);
        Check.is("the tape is empty", house.count(4), 0);
    }

    private static void whatIsCutOffIsNotRead() {
        JobHouse house = new JobHouse();
        // "+6055": what lies behind the tape's end must not be read.
        house.feed(0x2b363035, 0x35000000, 0, 0, 0);
        house.end(3);
        house.zone(1);
        Check.is("+60", house.local(1, 0, 7), 60);
        Check.feed(house, "* * * ? * MON 20245");
        house.end(12);
        Check.failsVoid("MO", Check.BROKEN, () -> house.cron(0));
        Check.is("place", house.count(5), 10);
        Check.feed(house, "* * * ? * MON 20245");
        house.end(18);
        house.cron(0);
        Check.is("2024", house.next(0, 0, -1, 0), Check.at("2024-01-01T00:00:00"));
        Check.feed(house, "* * * * * ? 2024");
        house.end(12);
        Check.failsVoid("a year must stand there", Check.BROKEN, () -> house.cron(0));
        Check.is("place", house.count(5), 12);
    }

    private static void fullTapes() {
        String blanks = " ".repeat(389);
        String[] texts = {"* * * * *" + blanks + " ?", "* * * * * ?" + blanks,
            "0" + ",59".repeat(129) + "   * * * JAN", "0" + ",59".repeat(128) + " * * 1 * ?    1",
            "0" + ",59".repeat(129) + " * * * * ?  "};
        long[] due = {-1, 400, 400, 399, 400};
        for (int i = 0; i < texts.length; i++) {
            Check.is("length " + i, texts[i].length(), 400);
            Check.is("text " + i, Check.cronPlace(new JobHouse(), texts[i]), due[i]);
        }
        Check.is("a zone", Check.zonePlace(new JobHouse(), "+60 60" + " ".repeat(381)
                + "M3.5.0/120 M1"), 400);
    }
}
