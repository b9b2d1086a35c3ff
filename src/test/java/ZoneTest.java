import java.util.Random;

/** Promise 4: zone. */
final class ZoneTest {
    public static void main(String[] args) {
        good();
        broken();
        ranges();
        brokenOnesChangeNothing();
        randomTexts();
        Check.finish();
    }

    private static void good() {
        String[] texts = {"+0", "-0", "+840", "-840", "+60 1 M1.1.0/0 M12.5.6/1439",
            "+60   120  M3.5.0/120     M10.5.0/180", "-1 60 M3.2.0/120 M11.1.0/120"};
        for (String text : texts) {
            Check.is(text, Check.zonePlace(new JobHouse(), text), -1);
        }
        JobHouse house = new JobHouse();
        Check.zone(house, 7, "-0");
        Check.is("-0", house.local(7, 0, 7), 0);
        Check.zone(house, 7, "-840");
        Check.is("-840", house.local(7, 0, 7), -840);
        Check.is("another zone stays", house.local(6, 0, 7), 0);
    }

    private static void broken() {
        JobHouse house = new JobHouse();
        String rules = "+60 60 M3.5.0/120 M10.5.0/180";
        for (int length = 0; length < rules.length(); length++) {
            boolean whole = length == 2 || length == 3 || length >= rules.length() - 2;
            long due = whole ? -1 : length;
            String text = rules.substring(0, length);
            Check.is(text, Check.zonePlace(house, text), due);
        }
        Object[][] rows = {
            {"60", 0}, {" +60", 0}, {"+-6", 1}, {"+ 6", 1}, {"+841", 1}, {"+8400", 1},
            {"+99999999999999999999", 1}, {"+4294967296", 1}, {"+00", 2}, {"+01", 2}, {"-0 ", 3},
            {"+60x", 3}, {"+60,", 3}, {"+60\t60", 3}, {"+60 x", 4}, {"+60 0", 4}, {"+60 05", 4},
            {"+60 121", 4}, {"+60 60x", 6}, {"+60 60 m3.5.0/0", 7}, {"+60 60 M0.5.0/0", 8},
            {"+60 60 M13.5.0/0", 8}, {"+60 60 M03.5.0/0", 8}, {"+60 60 M3,5.0/0", 9},
            {"+60 60 M3.0.0/0", 10}, {"+60 60 M3.6.0/0", 10}, {"+60 60 M3.5 0/0", 11},
            {"+60 60 M3.5.7/0", 12}, {"+60 60 M3.5.00/0", 13}, {"+60 60 M3.5.0.0", 13},
            {"+60 60 M3.5.0/1440", 14}, {"+60 60 M3.5.0/00", 15}, {"+60 60 M3.5.0/-1", 14},
            {"+60 60 M3.5.0/120M", 17}, {"+60 60 M3.5.0/120 N", 18},
            {"+60 60 M3.5.0/120 M10.5.0/1800", 26}, {rules + " ", 29}, {rules + "x", 29},
            {rules + "\0", 29}, {"+60\0", 3}, {"\u00ab60", 0}};
        for (Object[] row : rows) {
            String text = (String) row[0];
            Check.is(text, Check.zonePlace(house, text), (Integer) row[1]);
        }
    }

    private static void ranges() {
        JobHouse house = new JobHouse();
        Check.feed(house, "+6x");
        Check.failsVoid("zone -1", Check.RANGE, () -> house.zone(-1));
        Check.failsVoid("zone 8", Check.RANGE, () -> house.zone(8));
        Check.is("the tape stays", house.count(4), 3);
        Check.is("no place is told", house.count(5), -1);
        Check.failsVoid("zone 0", Check.BROKEN, () -> house.zone(0));
        Check.is("the tape is empty", house.count(4), 0);
        Check.is("the place is told", house.count(5), 2);
        Check.failsVoid("zone 8", Check.RANGE, () -> house.zone(8));
        Check.is("the place stays", house.count(5), 2);
        Check.zone(house, 0, "+6");
        Check.is("no place any more", house.count(5), -1);
    }

    private static void brokenOnesChangeNothing() {
        JobHouse house = new JobHouse();
        Check.zone(house, 2, "+60 60 M3.5.0/120 M10.5.0/180");
        long july = Check.at("2024-07-01T00:00:00");
        Check.is("summer", house.local(2, july, 7), 120);
        Check.feed(house, "-300 30 M1.1.1/1 M2.2.2/2x");
        Check.failsVoid("broken at its end", Check.BROKEN, () -> house.zone(2));
        Check.is("as it was", house.local(2, july, 7), 120);
        Check.is("as it was", house.local(2, Check.at("2024-01-20T00:00:00"), 7), 60);
        Check.zone(house, 2, "-300");
        Check.is("told anew", house.local(2, july, 7), -300);
    }

    private static void randomTexts() {
        Random random = new Random(4);
        for (int i = 0; i < 40000; i++) {
            String text = PlainZone.randomText(random);
            if (random.nextInt(5) != 0) {
                text = RandomCron.spoilt(random, text);
            }
            Check.is("\"" + text + "\"", Check.zonePlace(new JobHouse(), text),
                    PlainZone.placeOf(text));
        }
    }
}
