/** ZONES, promises 4 and 9: each sentence that names a boundary has a test of its own. */
final class ZoneEdgesTest {
    private static final String SUMMER = "+60 60 M3.5.0/120 M10.5.0/180";

    public static void main(String[] args) {
        Check.sentence("ZONES 0 .. 7", ZoneEdgesTest::numbers);
        Check.sentence("OFFSET [blanks SAVE blanks RULE blanks RULE]", ZoneEdgesTest::allOrNone);
        Check.sentence("OFFSET: + or - and minutes, at most 840", ZoneEdgesTest::offsets);
        Check.sentence("SAVE: minutes 1 .. 120", ZoneEdgesTest::saves);
        Check.sentence("month 1 .. 12", () -> rule("M", ".5.0/0", 1, 12));
        Check.sentence("week 1 .. 5", () -> rule("M3.", ".0/0", 1, 5));
        Check.sentence("weekday 0 .. 6 (0 Sunday)", ZoneEdgesTest::weekdays);
        Check.sentence("minutes 0 .. 1439", ZoneEdgesTest::minutes);
        Check.sentence("no 0 in front", ZoneEdgesTest::noZeroInFront);
        Check.sentence("LOCAL time is universal time and OFFSET, and in SUMMER SAVE besides.",
                ZoneEdgesTest::offsetAndSave);
        Check.sentence("In each year (LOCAL, 1970 to 2299)", ZoneEdgesTest::years);
        Check.sentence("the week-th one in that month (5: the last one)", ZoneEdgesTest::weeks);
        Check.sentence("in LOCAL time without SAVE", ZoneEdgesTest::beginsWithoutSave);
        Check.sentence("in LOCAL time with SAVE", ZoneEdgesTest::endsWithSave);
        Check.sentence("whether it is SUMMER is as the latest of these beginnings and ends, in"
                + " universal time, says", ZoneEdgesTest::latest);
        Check.sentence("(of a beginning and an end at the same time: the end)",
                ZoneEdgesTest::sameTime);
        Check.sentence("before the first of all: not", ZoneEdgesTest::beforeAll);
        Check.sentence("(-0 is +0; no blanks in front or behind.)", ZoneEdgesTest::blanksAndMinus);
        Check.sentence("No ZONE was told: +0.", ZoneEdgesTest::notTold);
        Check.sentence("so many minutes behind midnight", ZoneEdgesTest::minutesBehindMidnight);
        Check.sentence("The TAPE is ZONE z from now on", ZoneEdgesTest::fromNowOn);
        Check.sentence("broken: UnsupportedOperationException, PLACE is told (ZONE z stays as it"
                + " was)", ZoneEdgesTest::staysAsItWas);
        Check.sentence("what 0 second, 1 minute, 2 hour, 3 day, 4 month, 5 year, 6 weekday"
                + " (1 Sunday), 7 minutes from universal to LOCAL time", ZoneEdgesTest::whats);
        Check.sentence("of the LOCAL time at t (beyond the years told, too)",
                ZoneEdgesTest::beyondTheYears);
        Check.sentence("DAYS are numbered from 0 for the first of January 1970, a Thursday;"
                + " months, leap years, weekdays are those of the Gregorian calendar",
                ZoneEdgesTest::calendar);
        Check.finish();
    }

    private static void place(String text, long due) {
        Check.is("\"" + text + "\"", Check.zonePlace(new JobHouse(), text), due);
    }

    private static int minutesAt(String zone, long t) {
        JobHouse house = new JobHouse();
        Check.zone(house, 3, zone);
        return house.local(3, t, 7);
    }

    private static void changes(String zone, String time, int before, int then) {
        long t = Check.at(time);
        Check.is(zone + " before " + time, minutesAt(zone, t - 1), before);
        Check.is(zone + " at " + time, minutesAt(zone, t), then);
    }

    private static void numbers() {
        JobHouse house = new JobHouse();
        for (int z = 0; z <= 7; z++) {
            Check.zone(house, z, "+" + (z + 1));
        }
        for (int z = 0; z <= 7; z++) {
            Check.is("zone " + z, house.local(z, 0, 7), z + 1);
        }
        Check.cron(house, 0, "* * * * * ?");
        int[] wrong = {-1, 8, Integer.MIN_VALUE, Integer.MAX_VALUE};
        for (int z : wrong) {
            Check.failsVoid("zone " + z, Check.RANGE, () -> house.zone(z));
            Check.fails("local " + z, Check.RANGE, () -> house.local(z, 0, 7));
            Check.fails("next " + z, Check.RANGE, () -> house.next(0, z, -1, 0));
            Check.fails("last " + z, Check.RANGE, () -> house.last(0, z, -1, 0));
            Check.fails("makeCron " + z, Check.RANGE, () -> house.makeCron(0, z, -1, 0, 0, 0, 0));
        }
    }

    private static void allOrNone() {
        String[] parts = {"+60", " ", "60", " ", "M3.5.0/120", " ", "M10.5.0/180"};
        String text = "";
        for (int i = 0; i < parts.length; i++) {
            text += parts[i];
            place(text, i == 0 || i == 6 ? -1 : text.length());
        }
        place(text + " M1.1.1/1", text.length());
        place("+60      60   M3.5.0/120  M10.5.0/180", -1);
        place("+6060 M3.5.0/120 M10.5.0/180", 1);
        place("+60 60M3.5.0/120 M10.5.0/180", 6);
        place("+60 60 M3.5.0/120M10.5.0/180", 17);
        place("+60 M3.5.0/120 M10.5.0/180", 4);
    }

    private static void offsets() {
        for (int minutes : new int[] {0, 1, 839, 840}) {
            Check.is("+" + minutes, minutesAt("+" + minutes, 0), minutes);
            Check.is("-" + minutes, minutesAt("-" + minutes, 0), -minutes);
        }
        for (String number : new String[] {"841", "999", "8400", "4294967296",
            "18446744073709551616"}) {
            place("+" + number, 1);
            place("-" + number, 1);
            place("-" + number + SUMMER.substring(3), 1);
        }
        place("", 0);
        place("+", 1);
        place("-", 1);
        place("60", 0);
        place("++60", 1);
        place("+-60", 1);
        place("x60", 0);
        place("+x", 1);
    }

    private static void saves() {
        for (int save = 1; save <= 120; save += save == 1 ? 118 : 1) {
            String text = "+0 " + save + " M3.5.0/120 M10.5.0/180";
            Check.is(text, minutesAt(text, Check.at("2024-07-01T00:00:00")), save);
        }
        for (String save : new String[] {"0", "121", "1000", "4294967297", "-1", "+1", "x"}) {
            place("+60 " + save + " M3.5.0/120 M10.5.0/180", 4);
        }
    }

    /** The number between the two parts, at its ends and beyond, in both rules. */
    private static void rule(String front, String behind, int low, int high) {
        String first = "+60 60 ";
        String second = "+60 60 M3.5.0/120 ";
        for (int number : new int[] {low, high}) {
            place(first + front + number + behind + " M1.1.1/1", -1);
            place(second + front + number + behind, -1);
        }
        for (long number : new long[] {low - 1, high + 1, 100L * high, 4294967296L + low}) {
            if (number >= 0) {
                place(first + front + number + behind + " M1.1.1/1", (first + front).length());
                place(second + front + number + behind, (second + front).length());
            }
        }
        place(first + front + behind + " M1.1.1/1", (first + front).length());
        place(second + front + behind, (second + front).length());
    }

    private static void weekdays() {
        rule("M3.5.", "/0", 0, 6);
        // March 2024 begins with a Friday: its first Sunday is the 3rd, its first Saturday the 2nd.
        for (int weekday = 0; weekday <= 6; weekday++) {
            int date = weekday < 5 ? 3 + weekday : weekday - 4;
            changes("+0 60 M3.1." + weekday + "/0 M10.1.0/0",
                    "2024-03-0" + date + "T00:00:00", 0, 60);
        }
    }

    private static void minutes() {
        rule("M3.5.0/", "", 0, 1439);
    }

    private static void minutesBehindMidnight() {
        changes("+0 60 M3.5.0/0 M10.1.0/0", "2024-03-31T00:00:00", 0, 60);
        changes("+0 60 M3.5.0/1 M10.1.0/0", "2024-03-31T00:01:00", 0, 60);
        changes("+0 60 M3.5.0/1439 M10.1.0/0", "2024-03-31T23:59:00", 0, 60);
        changes("+0 60 M3.5.0/0 M10.5.0/1439", "2024-10-27T22:59:00", 60, 0);
    }

    private static void noZeroInFront() {
        place("+00", 2);
        place("-07", 2);
        place("+060", 2);
        place("+60 060 M3.5.0/120 M10.5.0/180", 4);
        place("+60 60 M03.5.0/120 M10.5.0/180", 8);
        place("+60 60 M3.05.0/120 M10.5.0/180", 10);
        place("+60 60 M3.5.00/120 M10.5.0/180", 13);
        place("+60 60 M3.5.01/120 M10.5.0/180", 13);
        place("+60 60 M3.5.0/00 M10.5.0/180", 15);
        place("+60 60 M3.5.0/0120 M10.5.0/180", 15);
        place("+60 60 M3.5.0/120 M010.5.0/180", 19);
        place("+60 60 M3.5.0/120 M10.05.0/180", 22);
        place("+60 60 M3.5.0/120 M10.5.00/180", 25);
        place("+60 60 M3.5.0/120 M10.5.0/0180", 27);
        place("+0 60 M3.5.0/0 M10.5.0/0", -1);
    }

    private static void offsetAndSave() {
        JobHouse house = new JobHouse();
        Check.zone(house, 0, "-210 90 M3.2.0/120 M11.1.0/120");
        long winter = Check.at("2024-01-15T12:00:00");
        Check.is("hour in winter", house.local(0, winter, 2), 8);
        Check.is("minute in winter", house.local(0, winter, 1), 30);
        long summer = Check.at("2024-07-15T12:00:00");
        Check.is("hour in summer", house.local(0, summer, 2), 10);
        Check.is("minute in summer", house.local(0, summer, 1), 0);
    }

    private static void years() {
        // In 1970 and in 2299 there are both; the first of January 1970 is a Thursday.
        changes(SUMMER, "1970-03-29T01:00:00", 60, 120);
        changes(SUMMER, "1970-10-25T01:00:00", 120, 60);
        changes(SUMMER, "2299-03-26T01:00:00", 60, 120);
        changes(SUMMER, "2299-10-29T01:00:00", 120, 60);
        // Its beginning in 1970 lies before TIME, that in 1969 is none, that in 2300 neither.
        Check.is("begun before 0", minutesAt("+840 60 M1.1.4/0 M6.1.0/0", 0), 900);
        Check.is("1969", minutesAt("-840 60 M12.5.3/0 M6.1.0/0", 0), -840);
        Check.is("still 1969", minutesAt("-840 60 M12.5.3/0 M6.1.0/0",
                Check.at("1970-05-01T00:00:00")), -840);
        Check.is("2300", minutesAt("+840 60 M1.1.1/0 M6.1.0/0", Check.END_OF_TIME), 840);
        Check.is("no end in 2300", minutesAt("+840 60 M6.1.0/0 M1.1.1/0", Check.END_OF_TIME),
                900);
        // The last day of 2299 is a Sunday.
        changes("+0 60 M12.5.0/1439 M6.1.0/0", "2299-12-31T23:59:00", 0, 60);
        changes("+840 60 M12.5.0/1439 M6.1.0/0", "2299-12-31T09:59:00", 840, 900);
        Check.is("its end lies beyond TIME", minutesAt("-840 60 M6.1.0/0 M12.5.0/1439",
                Check.END_OF_TIME), -780);
    }

    private static void weeks() {
        // March 2024 begins with a Friday, so it has five Fridays and four Thursdays.
        int[] fridays = {1, 8, 15, 22, 29};
        int[] thursdays = {7, 14, 21, 28, 28};
        for (int week = 1; week <= 5; week++) {
            changes("+0 60 M3." + week + ".5/0 M10.1.0/0", String.format(
                    "2024-03-%02dT00:00:00", fridays[week - 1]), 0, 60);
            changes("+0 60 M3." + week + ".4/0 M10.1.0/0", String.format(
                    "2024-03-%02dT00:00:00", thursdays[week - 1]), 0, 60);
        }
        changes("+0 60 M2.5.4/0 M10.1.0/0", "2024-02-29T00:00:00", 0, 60);
        changes("+0 60 M2.5.3/0 M10.1.0/0", "2023-02-22T00:00:00", 0, 60);
        changes("+0 60 M2.5.2/0 M10.1.0/0", "2023-02-28T00:00:00", 0, 60);
        changes("+0 60 M4.5.2/0 M10.1.0/0", "2024-04-30T00:00:00", 0, 60);
        changes("+0 60 M12.5.2/0 M10.1.0/0", "2024-12-31T00:00:00", 0, 60);
        changes("+0 60 M3.1.0/0 M11.4.6/60", "2024-11-23T00:00:00", 60, 0);
        changes("+0 60 M3.1.0/0 M11.5.6/60", "2024-11-30T00:00:00", 60, 0);
    }

    private static void beginsWithoutSave() {
        changes("+0 120 M3.5.0/120 M10.5.0/180", "2024-03-31T02:00:00", 0, 120);
        changes("-600 120 M3.5.0/1439 M10.5.0/180", "2024-04-01T09:59:00", -600, -480);
        changes("+600 120 M3.5.0/0 M10.5.0/180", "2024-03-30T14:00:00", 600, 720);
    }

    private static void endsWithSave() {
        changes("+0 120 M3.5.0/120 M10.5.0/180", "2024-10-27T01:00:00", 120, 0);
        changes("+0 120 M3.5.0/120 M10.5.0/0", "2024-10-26T22:00:00", 120, 0);
        changes("-600 120 M3.5.0/120 M10.5.0/1439", "2024-10-28T07:59:00", -480, -600);
        // Told as the year's first minute, it lies in the year before without SAVE.
        changes("+0 60 M6.1.0/0 M1.1.0/0", "2022-12-31T23:00:00", 60, 0);
    }

    private static void latest() {
        // The southern half: summer at the turn of the year.
        String south = "+600 60 M10.1.0/120 M4.1.0/180";
        changes(south, "2024-04-06T16:00:00", 660, 600);
        changes(south, "2024-10-05T16:00:00", 600, 660);
        Check.is("the year before began it", minutesAt(south, Check.at("2024-01-01T00:00:00")),
                660);
        // The end comes an hour ahead of the beginning, as SAVE counts in it alone.
        String swapped = "+0 120 M6.1.0/0 M6.1.0/60";
        changes(swapped, "2024-06-01T23:00:00", 120, 0);
        changes(swapped, "2024-06-02T00:00:00", 0, 120);
        Check.is("till the next year", minutesAt(swapped, Check.at("2025-05-31T22:59:59")), 120);
    }

    private static void sameTime() {
        String zone = "+60 90 M6.1.0/0 M6.1.0/90";
        for (String time : new String[] {"2024-06-01T22:59:59", "2024-06-01T23:00:00",
            "2024-06-02T01:00:00", "2024-12-01T00:00:00"}) {
            Check.is(time, minutesAt(zone, Check.at(time)), 60);
        }
        // In 2024 the fourth Sunday of June is not the last one, in 2025 neither; in 2026 it is.
        String some = "+0 60 M6.5.0/0 M6.4.0/60";
        changes(some, "2024-06-30T00:00:00", 0, 60);
        changes(some, "2025-06-22T00:00:00", 60, 0);
        changes(some, "2025-06-29T00:00:00", 0, 60);
        changes(some, "2026-06-28T00:00:00", 60, 0);
    }

    private static void beforeAll() {
        Check.is("a beginning is the first", minutesAt(SUMMER, 0), 60);
        String south = "+600 60 M10.1.0/120 M4.1.0/180";
        Check.is("an end is the first", minutesAt(south, 0), 600);
        Check.is("till it", minutesAt(south, Check.at("1970-04-01T00:00:00")), 600);
        Check.is("and behind it", minutesAt(south, Check.at("1970-05-01T00:00:00")), 600);
        changes(south, "1970-10-03T16:00:00", 600, 660);
    }

    private static void blanksAndMinus() {
        Check.is("-0", minutesAt("-0", 0), 0);
        Check.is("-0 in summer", minutesAt("-0 30 M3.5.0/0 M10.5.0/0",
                Check.at("2024-07-01T00:00:00")), 30);
        place(" +60", 0);
        place(" " + SUMMER, 0);
        place("+60 ", 4);
        place("+60   ", 6);
        place("-0 ", 3);
        place(SUMMER + " ", SUMMER.length());
        place(SUMMER + "   ", SUMMER.length());
        place("+ 60", 1);
        place("+60\t60 M3.5.0/120 M10.5.0/180", 3);
        place("+60 60 M 3.5.0/120 M10.5.0/180", 8);
        place("+60 60 M3 .5.0/120 M10.5.0/180", 9);
        place("+60 60 M3.5.0 /120 M10.5.0/180", 13);
        place("+60 60 M3.5.0/ 120 M10.5.0/180", 14);
    }

    private static void notTold() {
        JobHouse house = new JobHouse();
        Check.zone(house, 3, "+60");
        Check.feed(house, "+61x");
        Check.failsVoid("a broken one", Check.BROKEN, () -> house.zone(4));
        for (int z = 0; z < 8; z++) {
            for (long t : new long[] {0, Check.at("2024-07-01T00:00:00"), Check.END_OF_TIME}) {
                Check.is("zone " + z, house.local(z, t, 7), z == 3 ? 60 : 0);
            }
        }
    }

    /** Of texts that were told before nothing is left, however often another one is told. */
    private static void fromNowOn() {
        JobHouse house = new JobHouse();
        String[] texts = {SUMMER, "-60", "+75", "+0 30 M6.1.0/0 M4.1.0/0", SUMMER, "+5", "+7 1"
            + " M12.1.0/0 M4.1.0/0", "-840"};
        int[] due = {120, -60, 75, 30, 120, 5, 7, -840};
        long july = Check.at("2024-07-01T00:00:00");
        for (int i = 0; i < texts.length; i++) {
            Check.zone(house, 5, texts[i]);
            Check.is(texts[i], house.local(5, july, 7), due[i]);
            Check.is("another one", house.local(6, july, 7), 0);
        }
        Check.zone(house, 4, SUMMER);
        Check.is("another one changes nothing", house.local(5, july, 7), -840);
        Check.is("and is told, too", house.local(4, july, 7), 120);
    }

    private static void staysAsItWas() {
        // Broken at the beginning, in each part, and behind the end.
        String[] texts = {"", "x", "-", "-841", "-300 ", "-300 0", "-300 30 ", "-300 30 M1.1.1/1",
            "-300 30 M1.1.1/1 M2.2.2/", "-300 30 M1.1.1/1 M2.2.2/2x", "-300x"};
        int[] places = {0, 0, 1, 1, 5, 5, 8, 16, 24, 25, 4};
        for (int i = 0; i < texts.length; i++) {
            JobHouse house = new JobHouse();
            Check.zone(house, 2, SUMMER);
            Check.feed(house, texts[i]);
            Check.failsVoid("\"" + texts[i] + "\"", Check.BROKEN, () -> house.zone(2));
            Check.is("its place", house.count(5), places[i]);
            Check.is("in winter", house.local(2, Check.at("2024-01-20T00:00:00"), 7), 60);
            Check.is("in summer", house.local(2, Check.at("2024-07-20T00:00:00"), 7), 120);
        }
    }

    private static void whats() {
        JobHouse house = new JobHouse();
        Check.zone(house, 0, "+1");
        long t = Check.at("2024-03-09T23:58:57") + 999;
        int[] due = {57, 59, 23, 9, 3, 2024, 7, 1};
        int[] minuteLater = {57, 0, 0, 10, 3, 2024, 1, 1};
        for (int what = 0; what < due.length; what++) {
            Check.is("what " + what, house.local(0, t, what), due[what]);
            Check.is("a minute later " + what, house.local(0, t + 60000, what), minuteLater[what]);
        }
        for (int what : new int[] {-1, 8, Integer.MIN_VALUE, Integer.MAX_VALUE}) {
            Check.fails("what " + what, Check.RANGE, () -> house.local(0, 0, what));
        }
        for (long wrong : new long[] {-1, Check.END_OF_TIME + 1, Long.MIN_VALUE, Long.MAX_VALUE}) {
            Check.fails("t " + wrong, Check.RANGE, () -> house.local(0, wrong, 0));
        }
    }

    private static void beyondTheYears() {
        JobHouse house = new JobHouse();
        Check.zone(house, 1, "-840");
        Check.zone(house, 2, "+840");
        Check.zone(house, 3, "+840 120 M6.1.0/0 M5.1.0/0");
        Check.zone(house, 4, "-1");
        Check.zone(house, 5, "+1");
        int[][] due = {{0, 0, 10, 31, 12, 1969, 4, -840}, {59, 59, 13, 1, 1, 2300, 2, 840},
            {59, 59, 15, 1, 1, 2300, 2, 960}, {0, 59, 23, 31, 12, 1969, 4, -1},
            {59, 0, 0, 1, 1, 2300, 2, 1}};
        for (int z = 1; z <= 5; z++) {
            long t = z == 1 || z == 4 ? 0 : Check.END_OF_TIME;
            for (int what = 0; what < 8; what++) {
                Check.is("zone " + z + " what " + what, house.local(z, t, what),
                        due[z - 1][what]);
            }
        }
    }

    private static void date(String text, int weekday) {
        JobHouse house = new JobHouse();
        java.time.LocalDate date = java.time.LocalDate.parse(text);
        long[] times = {date.toEpochDay() * 86400000, date.toEpochDay() * 86400000 + 86399999};
        for (long t : times) {
            Check.is("year of " + text, house.local(0, t, 5), date.getYear());
            Check.is("month of " + text, house.local(0, t, 4), date.getMonthValue());
            Check.is("day of " + text, house.local(0, t, 3), date.getDayOfMonth());
            Check.is("weekday of " + text, house.local(0, t, 6), weekday);
        }
    }

    /** The first day of each month and the last one. */
    private static void monthsOf(int year) {
        JobHouse house = new JobHouse();
        for (int month = 1; month <= 12; month++) {
            java.time.LocalDate first = java.time.LocalDate.of(year, month, 1);
            int[] days = {1, first.lengthOfMonth()};
            for (int day : days) {
                long t = first.withDayOfMonth(day).toEpochDay() * 86400000;
                int weekday = first.withDayOfMonth(day).getDayOfWeek().getValue() % 7 + 1;
                Check.is("year of " + t, house.local(0, t, 5), year);
                Check.is("month of " + t, house.local(0, t, 4), month);
                Check.is("day of " + t, house.local(0, t, 3), day);
                Check.is("weekday of " + t, house.local(0, t, 6), weekday);
            }
        }
    }

    private static void calendar() {
        date("1970-01-01", 5);
        date("1970-12-31", 5);
        date("1972-02-29", 3);
        date("1972-12-31", 1);
        date("1999-12-31", 6);
        date("2000-02-29", 3);
        date("2000-03-01", 4);
        date("2100-02-28", 1);
        date("2100-03-01", 2);
        date("2200-02-28", 6);
        date("2200-03-01", 7);
        date("2299-12-31", 1);
        for (int year = 1970; year <= 2299; year++) {
            monthsOf(year);
        }
        JobHouse house = new JobHouse();
        Check.is("the end of TIME is that of 2299", house.local(0, Check.END_OF_TIME, 0)
                + 100 * house.local(0, Check.END_OF_TIME, 1)
                + 10000 * house.local(0, Check.END_OF_TIME, 2), 235959);
    }
}
