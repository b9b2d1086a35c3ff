import java.time.DayOfWeek;
import java.time.LocalDateTime;
import java.time.ZoneOffset;
import java.util.Random;

/** Promise 9: local, and what the document says of summer. */
final class LocalTest {
    public static void main(String[] args) {
        everyDay();
        beyondTheYears();
        changes();
        atTheTurnOfTheYear();
        sameTime();
        randomZones();
        ranges();
        Check.finish();
    }

    private static void everyDay() {
        JobHouse house = new JobHouse();
        for (int day = 0; day <= 120529; day++) {
            // An object is good for 512 calls.
            if (day % 60 == 0) {
                house = new JobHouse();
            }
            long t = day * 86400000L + day % 86400 * 1000L + day % 1000;
            compare(house, 0, t, 0);
        }
    }

    private static void compare(JobHouse house, int z, long t, int minutes) {
        LocalDateTime due = LocalDateTime.ofEpochSecond(
                Math.floorDiv(t, 1000L) + minutes * 60L, 0, ZoneOffset.UTC);
        int[] parts = {due.getSecond(), due.getMinute(), due.getHour(), due.getDayOfMonth(),
            due.getMonthValue(), due.getYear(), due.getDayOfWeek().getValue() % 7 + 1, minutes};
        for (int what = 0; what < parts.length; what++) {
            Check.is("local(" + z + ", " + t + ", " + what + ")", house.local(z, t, what),
                    parts[what]);
        }
    }

    private static void beyondTheYears() {
        JobHouse house = new JobHouse();
        Check.zone(house, 1, "-840");
        compare(house, 1, 0, -840);
        Check.is("1969", house.local(1, 0, 5), 1969);
        Check.is("Wednesday", house.local(1, 0, 6), 4);
        Check.zone(house, 2, "+840");
        compare(house, 2, Check.END_OF_TIME, 840);
        Check.is("2300", house.local(2, Check.END_OF_TIME, 5), 2300);
        // The last end is 2299's, the last beginning too: 2300 stays as they left it.
        Check.zone(house, 3, "+840 120 M12.1.0/0 M6.1.0/0");
        compare(house, 3, Check.END_OF_TIME, 960);
        Check.zone(house, 4, "-840 120 M12.1.0/0 M6.1.0/0");
        compare(house, 4, 0, -840);
        Check.is("not summer before the first", house.local(4, Check.at("1970-05-01T00:00:00"), 7),
                -840);
    }

    private static void changes() {
        JobHouse house = new JobHouse();
        Check.zone(house, 1, "+60 60 M3.5.0/120 M10.5.0/180");
        compare(house, 1, Check.at("2024-03-31T01:00:00") - 1, 60);
        compare(house, 1, Check.at("2024-03-31T01:00:00"), 120);
        compare(house, 1, Check.at("2024-10-27T01:00:00") - 1, 120);
        compare(house, 1, Check.at("2024-10-27T01:00:00"), 60);
        Check.zone(house, 2, "-300 60 M3.2.0/120 M11.1.0/120");
        compare(house, 2, Check.at("2024-03-10T07:00:00") - 1, -300);
        compare(house, 2, Check.at("2024-03-10T07:00:00"), -240);
        compare(house, 2, Check.at("2024-11-03T06:00:00") - 1, -240);
        compare(house, 2, Check.at("2024-11-03T06:00:00"), -300);
        Check.zone(house, 3, "+630 30 M10.1.0/120 M4.1.0/120");
        compare(house, 3, Check.at("2024-01-01T00:00:00"), 660);
        compare(house, 3, Check.at("2024-04-06T15:00:00") - 1, 660);
        compare(house, 3, Check.at("2024-04-06T15:00:00"), 630);
        compare(house, 3, Check.at("2024-10-05T15:30:00"), 660);
    }

    /** The next year's end, told in summer time, lies before this year's beginning. */
    private static void atTheTurnOfTheYear() {
        JobHouse house = new JobHouse();
        // 2022 ends with a Saturday, 2023 begins with a Sunday.
        Check.zone(house, 1, "+0 120 M12.5.6/1439 M1.1.0/0");
        compare(house, 1, Check.at("2022-12-31T22:00:00"), 0);
        compare(house, 1, Check.at("2022-12-31T23:58:59"), 0);
        compare(house, 1, Check.at("2022-12-31T23:59:00"), 120);
        compare(house, 1, Check.at("2023-12-30T23:58:59"), 120);
        compare(house, 1, Check.at("2023-12-30T23:59:00"), 120);
        compare(house, 1, Check.at("2024-01-06T22:00:00"), 0);
    }

    private static void sameTime() {
        JobHouse house = new JobHouse();
        Check.zone(house, 4, "+0 60 M6.1.0/0 M6.1.0/60");
        for (long t = Check.at("2024-05-30T00:00:00"); t < Check.at("2024-06-05T00:00:00");
                t += 10800000) {
            compare(house, 4, t, 0);
        }
    }

    private static void randomZones() {
        Random random = new Random(9);
        for (int i = 0; i < 300; i++) {
            JobHouse house = new JobHouse();
            String text = PlainZone.randomText(random);
            PlainZone zone = new PlainZone(text);
            Check.zone(house, 5, text);
            for (int k = 0; k < 60; k++) {
                long t = zone.interestingTime(random);
                compare(house, 5, t, zone.minutesAt(t));
            }
        }
    }

    private static void ranges() {
        JobHouse house = new JobHouse();
        Check.fails("z -1", Check.RANGE, () -> house.local(-1, 0, 0));
        Check.fails("z 8", Check.RANGE, () -> house.local(8, 0, 0));
        Check.fails("t -1", Check.RANGE, () -> house.local(0, -1, 0));
        Check.fails("t too great", Check.RANGE, () -> house.local(0, Check.END_OF_TIME + 1, 0));
        Check.fails("what -1", Check.RANGE, () -> house.local(0, 0, -1));
        Check.fails("what 8", Check.RANGE, () -> house.local(0, 0, 8));
        Check.is("the first day is a Thursday", house.local(0, 0, 6),
                DayOfWeek.THURSDAY.getValue() + 1);
    }
}
