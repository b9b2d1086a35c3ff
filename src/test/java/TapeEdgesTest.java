/** THE TAPE, promises 2 and 3: each sentence that names a boundary has a test of its own. */
final class TapeEdgesTest {
    public static void main(String[] args) {
        Check.sentence("THE TAPE has at most 400 bytes", TapeEdgesTest::atMost400);
        Check.sentence("a call that reads THE TAPE leaves it empty", TapeEdgesTest::leftEmpty);
        Check.sentence("also if it throws", TapeEdgesTest::leftEmptyIfBroken);
        Check.sentence("(but for a number out of range)", TapeEdgesTest::keptIfOutOfRange);
        Check.sentence("The 20 bytes of five ints, the highest of each first, come to the TAPE",
                TapeEdgesTest::twentyBytes);
        Check.sentence("it would have more than 400: IndexOutOfBoundsException",
                TapeEdgesTest::moreThan400);
        Check.sentence("Answers its length.", TapeEdgesTest::answersItsLength);
        Check.sentence("The TAPE keeps its first n bytes", TapeEdgesTest::keepsTheFirst);
        Check.sentence("n 0 .. its length", TapeEdgesTest::rangeOfEnd);
        Check.sentence("Answers n.", TapeEdgesTest::answersN);
        Check.finish();
    }

    private static int feedOne(JobHouse house) {
        return house.feed(-1, Integer.MIN_VALUE, Integer.MAX_VALUE, 0, 1);
    }

    private static JobHouse withLength(int length) {
        JobHouse house = new JobHouse();
        while (house.count(4) < length) {
            feedOne(house);
        }
        house.end(length);
        return house;
    }

    private static void atMost400() {
        JobHouse house = withLength(380);
        Check.is("380 and 20", feedOne(house), 400);
        Check.is("so many are there", house.count(4), 400);
        String text = "* * * * *" + " ".repeat(378) + "? 2000-2024/9";
        Check.is("of which all are read", Check.cronPlace(new JobHouse(), text), -1);
        JobHouse full = new JobHouse();
        Check.cron(full, 0, text);
        Check.is("to the last one", full.last(0, 0, -1, Check.END_OF_TIME),
                Check.at("2018-12-31T23:59:59"));
    }

    private static void leftEmpty() {
        JobHouse house = new JobHouse();
        Check.zone(house, 0, "+0");
        Check.is("by zone", house.count(4), 0);
        Check.cron(house, 0, "* * * * * ?");
        Check.is("by cron", house.count(4), 0);
        Check.is("it is fed from its beginning again", feedOne(house), 20);
    }

    private static void leftEmptyIfBroken() {
        JobHouse house = new JobHouse();
        Check.feed(house, "+6x");
        Check.failsVoid("zone", Check.BROKEN, () -> house.zone(0));
        Check.is("by zone", house.count(4), 0);
        Check.feed(house, "* x");
        Check.failsVoid("cron", Check.BROKEN, () -> house.cron(0));
        Check.is("by cron", house.count(4), 0);
        Check.failsVoid("an empty one, zone", Check.BROKEN, () -> house.zone(0));
        Check.is("is at its end at 0", house.count(5), 0);
        Check.failsVoid("an empty one, cron", Check.BROKEN, () -> house.cron(0));
        Check.is("is at its end at 0, too", house.count(5), 0);
    }

    private static void keptIfOutOfRange() {
        int[] numbers = {-1, 16, Integer.MIN_VALUE, Integer.MAX_VALUE};
        JobHouse house = new JobHouse();
        Check.feed(house, "+61");
        for (int number : numbers) {
            Check.failsVoid("zone " + number, Check.RANGE, () -> house.zone(number));
            Check.is("kept", house.count(4), 3);
            Check.failsVoid("cron " + number, Check.RANGE, () -> house.cron(number));
            Check.is("kept", house.count(4), 3);
        }
        Check.failsVoid("zone 8", Check.RANGE, () -> house.zone(8));
        house.zone(7);
        Check.is("and can be read then", house.local(7, 0, 7), 61);
    }

    /** A byte that can stand nowhere is broken at its place, which tells where it came to. */
    private static void twentyBytes() {
        byte[] text = "+60 60 M3.5.0/120 M1".getBytes(java.nio.charset.StandardCharsets.US_ASCII);
        for (int place = 0; place < 20; place++) {
            byte[] bytes = text.clone();
            bytes[place] = (byte) 0xff;
            java.nio.IntBuffer words = java.nio.ByteBuffer.wrap(bytes).asIntBuffer();
            JobHouse house = new JobHouse();
            house.feed(words.get(0), words.get(1), words.get(2), words.get(3), words.get(4));
            Check.failsVoid("byte " + place, Check.BROKEN, () -> house.zone(0));
            Check.is("byte " + place, house.count(5), place);
        }
    }

    private static void moreThan400() {
        for (int length = 381; length <= 400; length++) {
            JobHouse house = withLength(length);
            Check.fails(length + " and 20", Check.FULL, () -> feedOne(house));
            Check.is("the length stays", house.count(4), length);
        }
        JobHouse house = new JobHouse();
        Check.feed(house, "* * * * *" + " ".repeat(372) + "?");
        Check.fails("382 and 20", Check.FULL, () -> feedOne(house));
        house.cron(0);
        Check.is("and so do its bytes", house.next(0, 0, -1, 0), 1000);
    }

    private static void answersItsLength() {
        for (int length = 0; length <= 380; length++) {
            Check.is("feed behind " + length, feedOne(withLength(length)), length + 20);
        }
    }

    private static void keepsTheFirst() {
        String text = "+123";
        int[] due = {1, 12, 123};
        for (int n = 2; n <= 4; n++) {
            JobHouse house = new JobHouse();
            Check.feed(house, text + "4 x");
            house.end(n);
            house.zone(0);
            Check.is("the first " + n, house.local(0, 0, 7), due[n - 2]);
        }
        JobHouse house = new JobHouse();
        Check.feed(house, "+999");
        house.end(0);
        Check.zone(house, 0, "-7");
        Check.is("none of them", house.local(0, 0, 7), -7);
        Check.feed(house, "* * * ? * MON");
        house.end(12);
        Check.failsVoid("what is cut off is not read", Check.BROKEN, () -> house.cron(0));
        Check.is("so the name is none", house.count(5), 10);
        Check.feed(house, "* * * * * ?    2024");
        house.end(13);
        Check.failsVoid("nor are blanks and a year", Check.BROKEN, () -> house.cron(0));
        Check.is("so the end is there", house.count(5), 13);
        Check.feed(house, "+8");
        house.end(2);
        Check.feed(house, "40");
        house.zone(0);
        Check.is("others come behind them", house.local(0, 0, 7), 840);
    }

    private static void rangeOfEnd() {
        int[] lengths = {0, 1, 20, 399, 400};
        for (int length : lengths) {
            JobHouse house = withLength(length);
            int[] wrong = {-1, length + 1, 401, Integer.MIN_VALUE, Integer.MAX_VALUE};
            for (int n : wrong) {
                Check.fails("end " + n + " of " + length, Check.RANGE, () -> house.end(n));
                Check.is("its length stays", house.count(4), length);
            }
            Check.is("end of all", house.end(length), length);
            Check.is("all stay", house.count(4), length);
            Check.is("end 0", house.end(0), 0);
            Check.is("none stays", house.count(4), 0);
            Check.is("end 0 of none", house.end(0), 0);
        }
    }

    private static void answersN() {
        JobHouse house = withLength(400);
        for (int n = 400; n >= 0; n -= 7) {
            Check.is("end", house.end(n), n);
        }
    }
}
