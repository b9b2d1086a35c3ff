/** CRONS, promises 5, 7 and 8: what an expression means at its boundaries, sentence by sentence. */
final class CronDayEdgesTest {
    public static void main(String[] args) {
        Check.sentence("year 1970 .. 2299 (none: all of these)", CronDayEdgesTest::allYears);
        Check.sentence("* is all", CronDayEdgesTest::all);
        Check.sentence("V - W from V to W", CronDayEdgesTest::upwards);
        Check.sentence("if V is above W: from V to the last and from the first to W",
                CronDayEdgesTest::wrapped);
        Check.sentence("V / N: from V to the last", CronDayEdgesTest::toTheLast);
        Check.sentence("/ N: each N-th of them, from the first on", CronDayEdgesTest::steps);
        Check.sentence("(of V - W with V above W from V on)", CronDayEdgesTest::wrappedSteps);
        Check.sentence("it says nothing", CronDayEdgesTest::markSaysNothing);
        Check.sentence("L the last one of the month", CronDayEdgesTest::last);
        Check.sentence("so many before it (none if there is no such day)",
                CronDayEdgesTest::lastBut);
        Check.sentence("LW the last one from Monday to Friday", CronDayEdgesTest::lastWorkday);
        Check.sentence("V W the one from Monday to Friday nearest to V in that month",
                CronDayEdgesTest::nearest);
        Check.sentence("of Saturday the day before, of Sunday the day behind, if they are in the"
                + " month", CronDayEdgesTest::weekend);
        Check.sentence("else two days behind, before", CronDayEdgesTest::twoDays);
        Check.sentence("none if there is no V", CronDayEdgesTest::noSuchDay);
        Check.sentence("L Saturday", CronDayEdgesTest::saturday);
        Check.sentence("V L the last such one of the month", CronDayEdgesTest::lastWeekday);
        Check.sentence("the N-th (none if there is no such one)", CronDayEdgesTest::nth);
        Check.finish();
    }

    /** Which numbers of a field an item is, told by what local answers of its fires. */
    private static void members(int field, String item, int... due) {
        String[] texts = {"# 0 0 1 1 ?", "0 # 0 1 1 ?", "0 0 # 1 1 ?", "0 0 0 # 1 ?",
            "0 0 0 1 # ?", "0 0 0 ? 1 #", "0 0 0 1 1 ? #"};
        int[] parts = {0, 1, 2, 3, 4, 6, 5};
        java.util.Set<Integer> got = new java.util.TreeSet<>();
        JobHouse house = new JobHouse();
        Check.cron(house, 0, texts[field].replace("#", item));
        // A millisecond before 2024: the fire at its very beginning counts, too.
        long begin = field == 6 ? 0 : Check.at("2024-01-01T00:00:00") - 1;
        long end = field == 6 ? Check.END_OF_TIME : Check.at("2024-12-31T23:59:59");
        if (field == 6 && house.last(0, 0, -1, 0) == 0) {
            got.add(1970);
        }
        // Two calls for each fire: so the 512 of an object are enough.
        long fire = house.next(0, 0, -1, begin);
        for (int i = 0; i < 150 && fire >= 0 && fire <= end; i++) {
            got.add(house.local(0, fire, parts[field]));
            fire = house.next(0, 0, -1, fire);
        }
        java.util.Set<Integer> wanted = new java.util.TreeSet<>();
        for (int number : due) {
            wanted.add(number);
        }
        String what = "field " + field + " " + item + ": " + got + ", due are " + wanted;
        Check.is(what, got.equals(wanted) ? 1 : 0, 1);
    }

    private static int[] range(int low, int high) {
        return java.util.stream.IntStream.rangeClosed(low, high).toArray();
    }

    private static void allYears() {
        Check.fires("0 0 0 1 1 ?", "2298-06-01T00:00:00", "2299-01-01T00:00:00", "none");
        Check.fires("59 59 23 31 12 ?", "2298-12-31T23:59:59", "2299-12-31T23:59:59", "none");
        Check.fires("0 0 0 1 1 ? 1971,1970", "1970-01-01T00:00:00", "1971-01-01T00:00:00", "none");
        JobHouse house = new JobHouse();
        Check.cron(house, 0, "0 0 0 1 1 ?");
        Check.is("1970", house.last(0, 0, -1, 0), 0);
        long fire = 0;
        for (int year = 1971; year <= 2299; year++) {
            fire = house.next(0, 0, -1, fire);
            Check.is("" + year, fire, Check.at(year + "-01-01T00:00:00"));
        }
        // From the middle of another year.
        Check.fires("0 0 0 1 1 ? 2024", "2022-06-15T00:00:00", "2024-01-01T00:00:00", "none");
        Check.cron(house, 1, "0 0 0 31 12 ? 2024");
        Check.is("backwards", house.last(1, 0, -1, Check.at("2026-06-15T00:00:00")),
                Check.at("2024-12-31T00:00:00"));
        members(6, "1970", 1970);
        members(6, "2299", 2299);
        members(6, "1970,2299", 1970, 2299);
        // Years that share a place in a row of 64 bits.
        members(6, "2033,2034,2097,2098", 2033, 2034, 2097, 2098);
        members(6, "2161,2162,2225,2226,2289,2290", 2161, 2162, 2225, 2226, 2289, 2290);
    }

    private static void all() {
        members(0, "*", range(0, 59));
        members(1, "*", range(0, 59));
        members(2, "*", range(0, 23));
        members(3, "*", range(1, 31));
        members(4, "*", range(1, 12));
        members(5, "*", range(1, 7));
        Check.fires("0 0 0 1 1 ? *", "2023-06-01T00:00:00", "2024-01-01T00:00:00",
                "2025-01-01T00:00:00");
    }

    private static void upwards() {
        members(0, "0-0", 0);
        members(0, "0-1", 0, 1);
        members(0, "58-59", 58, 59);
        members(0, "59-59", 59);
        members(0, "0-59", range(0, 59));
        members(1, "57-59", 57, 58, 59);
        members(2, "22-23", 22, 23);
        members(2, "0-23", range(0, 23));
        members(3, "1-31", range(1, 31));
        members(3, "30-31", 30, 31);
        members(4, "1-12", range(1, 12));
        members(4, "NOV-DEC", 11, 12);
        members(5, "1-7", range(1, 7));
        members(5, "SUN-MON", 1, 2);
        members(5, "FRI-SAT", 6, 7);
        members(6, "1970-1971", 1970, 1971);
        members(6, "2298-2299", 2298, 2299);
        members(6, "2000-2000", 2000);
        members(6, "2030-2036", range(2030, 2036));
    }

    private static void wrapped() {
        members(0, "59-0", 0, 59);
        members(0, "58-1", 0, 1, 58, 59);
        members(0, "1-0", range(0, 59));
        members(1, "59-0", 0, 59);
        members(2, "23-0", 0, 23);
        members(2, "22-1", 0, 1, 22, 23);
        members(3, "31-1", 1, 31);
        members(3, "30-2", 1, 2, 30, 31);
        members(4, "12-1", 1, 12);
        members(4, "NOV-FEB", 1, 2, 11, 12);
        members(5, "7-1", 1, 7);
        members(5, "FRI-MON", 1, 2, 6, 7);
        members(5, "2-1", range(1, 7));
        members(0, "5,59-0", 0, 5, 59);
    }

    private static void toTheLast() {
        members(0, "57/1", 57, 58, 59);
        members(0, "59/1", 59);
        members(1, "0/30", 0, 30);
        members(2, "20/3", 20, 23);
        members(3, "28/3", 28, 31);
        members(3, "28/4", 28);
        members(4, "OCT/2", 10, 12);
        members(5, "5/2", 5, 7);
        members(5, "SAT/2", 7);
        members(6, "2290/3", 2290, 2293, 2296, 2299);
        members(6, "2299/1", 2299);
        members(6, "2101/99", 2101, 2200, 2299);
    }

    private static void steps() {
        members(0, "*/59", 0, 59);
        members(0, "*/60", 0);
        members(0, "*/99", 0);
        members(0, "*/1", range(0, 59));
        members(0, "1-59/29", 1, 30, 59);
        members(0, "1-58/29", 1, 30);
        members(0, "5-5/2", 5);
        members(0, "58/99", 58);
        members(1, "*/20", 0, 20, 40);
        members(2, "*/23", 0, 23);
        members(3, "*/30", 1, 31);
        members(3, "*/31", 1);
        members(3, "*/10", 1, 11, 21, 31);
        members(4, "*/11", 1, 12);
        members(4, "*/5", 1, 6, 11);
        members(4, "FEB-OCT/4", 2, 6, 10);
        members(5, "*/6", 1, 7);
        members(5, "*/2", 1, 3, 5, 7);
        members(6, "*/99", 1970, 2069, 2168, 2267);
        members(6, "2000-2010/5", 2000, 2005, 2010);
        members(6, "2000-2009/5", 2000, 2005);
        members(0, "*/30,1/30", 0, 1, 30, 31);
    }

    private static void wrappedSteps() {
        members(0, "55-3/4", 3, 55, 59);
        members(0, "55-2/4", 55, 59);
        members(0, "59-0/1", 0, 59);
        members(0, "59-0/2", 59);
        members(0, "58-4/3", 1, 4, 58);
        members(1, "50-20/15", 5, 20, 50);
        members(2, "22-3/2", 0, 2, 22);
        members(2, "23-3/2", 1, 3, 23);
        members(3, "30-3/2", 1, 3, 30);
        members(3, "31-3/2", 2, 31);
        members(4, "NOV-FEB/2", 1, 11);
        members(4, "DEC-MAR/2", 2, 12);
        members(5, "SAT-MON/2", 2, 7);
        members(5, "6-2/3", 2, 6);
        members(3, "31-30/99", 31);
    }

    private static void markSaysNothing() {
        // Every day of a week, and every date of a month.
        Check.fires("0 0 0 10-16 6 ?", "2024-06-01T00:00:00", "2024-06-10T00:00:00",
                "2024-06-11T00:00:00", "2024-06-12T00:00:00", "2024-06-13T00:00:00",
                "2024-06-14T00:00:00", "2024-06-15T00:00:00", "2024-06-16T00:00:00",
                "2025-06-10T00:00:00");
        Check.fires("0 0 0 ? 3 FRI", "2024-02-20T00:00:00", "2024-03-01T00:00:00",
                "2024-03-08T00:00:00", "2024-03-15T00:00:00", "2024-03-22T00:00:00",
                "2024-03-29T00:00:00", "2025-03-07T00:00:00");
    }

    private static void last() {
        Check.fires("0 0 0 L * ?", "2024-01-01T00:00:00", "2024-01-31T00:00:00",
                "2024-02-29T00:00:00", "2024-03-31T00:00:00", "2024-04-30T00:00:00",
                "2024-05-31T00:00:00", "2024-06-30T00:00:00", "2024-07-31T00:00:00",
                "2024-08-31T00:00:00", "2024-09-30T00:00:00", "2024-10-31T00:00:00",
                "2024-11-30T00:00:00", "2024-12-31T00:00:00", "2025-01-31T00:00:00",
                "2025-02-28T00:00:00");
        Check.fires("0 0 0 L 2 ?", "2099-03-01T00:00:00", "2100-02-28T00:00:00");
        Check.fires("0 0 0 L 2 ?", "2000-01-01T00:00:00", "2000-02-29T00:00:00");
        Check.fires("0 0 0 L 12 ?", "2299-01-01T00:00:00", "2299-12-31T00:00:00", "none");
    }

    private static void lastBut() {
        Check.fires("0 0 0 L-1 * ?", "2024-01-01T00:00:00", "2024-01-30T00:00:00",
                "2024-02-28T00:00:00", "2024-03-30T00:00:00", "2024-04-29T00:00:00");
        Check.fires("0 0 0 L-30 * ?", "2024-01-01T00:00:00", "2024-03-01T00:00:00",
                "2024-05-01T00:00:00", "2024-07-01T00:00:00");
        Check.fires("0 0 0 L-29 * ?", "2023-01-02T00:00:00", "2023-03-02T00:00:00",
                "2023-04-01T00:00:00");
        Check.fires("0 0 0 L-28 2 ?", "2021-01-01T00:00:00", "2024-02-01T00:00:00",
                "2028-02-01T00:00:00");
        Check.fires("0 0 0 L-28 2 ?", "2097-01-01T00:00:00", "2104-02-01T00:00:00");
        Check.fires("0 0 0 L-27 2 ?", "2023-01-01T00:00:00", "2023-02-01T00:00:00",
                "2024-02-02T00:00:00");
        Check.fires("0 0 0 L-29 2 ?", "1970-01-01T00:00:00", "none");
        Check.fires("0 0 0 L-30 4,6,9,11 ?", "1970-01-01T00:00:00", "none");
    }

    private static void lastWorkday() {
        // Their last days are a Wednesday, a Thursday, a Sunday, a Tuesday, a Friday.
        Check.fires("0 0 0 LW 1-5 ? 2024", "2024-01-01T00:00:00", "2024-01-31T00:00:00",
                "2024-02-29T00:00:00", "2024-03-29T00:00:00", "2024-04-30T00:00:00",
                "2024-05-31T00:00:00", "none");
        // A Sunday, a Wednesday, a Saturday, a Monday.
        Check.fires("0 0 0 LW 6-9 ? 2024", "2024-01-01T00:00:00", "2024-06-28T00:00:00",
                "2024-07-31T00:00:00", "2024-08-30T00:00:00", "2024-09-30T00:00:00", "none");
        // The 28th of February is a Saturday in 2026, a Sunday in 2027.
        Check.fires("0 0 0 LW 2 ?", "2025-06-01T00:00:00", "2026-02-27T00:00:00",
                "2027-02-26T00:00:00", "2028-02-29T00:00:00");
    }

    private static void nearest() {
        // The 10th to the 14th of June 2024 are Monday to Friday.
        for (int day = 10; day <= 14; day++) {
            Check.fires("0 0 0 " + day + "W 6 ? 2024", "2024-01-01T00:00:00",
                    "2024-06-" + day + "T00:00:00", "none");
        }
        Check.fires("0 0 0 1W 7 ? 2024", "2024-01-01T00:00:00", "2024-07-01T00:00:00", "none");
        Check.fires("0 0 0 31W 7 ? 2024", "2024-01-01T00:00:00", "2024-07-31T00:00:00", "none");
    }

    private static void weekend() {
        Check.fires("0 0 0 15W 6 ? 2024", "2024-01-01T00:00:00", "2024-06-14T00:00:00", "none");
        Check.fires("0 0 0 16W 6 ? 2024", "2024-01-01T00:00:00", "2024-06-17T00:00:00", "none");
        // Just inside the month: Saturday the 2nd, Sunday the 29th and the 30th.
        Check.fires("0 0 0 2W 3 ? 2024", "2024-01-01T00:00:00", "2024-03-01T00:00:00", "none");
        Check.fires("0 0 0 29W 9 ? 2024", "2024-01-01T00:00:00", "2024-09-30T00:00:00", "none");
        Check.fires("0 0 0 30W 7 ? 2023", "2023-01-01T00:00:00", "2023-07-31T00:00:00", "none");
        Check.fires("0 0 0 1W 9 ? 2024", "2024-01-01T00:00:00", "2024-09-02T00:00:00", "none");
        Check.fires("0 0 0 31W 8 ? 2024", "2024-01-01T00:00:00", "2024-08-30T00:00:00", "none");
    }

    private static void twoDays() {
        // Saturday the 1st: Monday the 3rd.
        Check.fires("0 0 0 1W 6 ? 2024", "2024-01-01T00:00:00", "2024-06-03T00:00:00", "none");
        Check.fires("0 0 0 1W 1 ? 2000", "1999-01-01T00:00:00", "2000-01-03T00:00:00", "none");
        // A Sunday that is the last of 31, 30, 28 and 29 days: the Friday before.
        Check.fires("0 0 0 31W 3 ? 2024", "2024-01-01T00:00:00", "2024-03-29T00:00:00", "none");
        Check.fires("0 0 0 30W 6 ? 2024", "2024-01-01T00:00:00", "2024-06-28T00:00:00", "none");
        Check.fires("0 0 0 28W 2 ? 2027", "2024-01-01T00:00:00", "2027-02-26T00:00:00", "none");
        Check.fires("0 0 0 29W 2 ? 2032", "2024-01-01T00:00:00", "2032-02-27T00:00:00", "none");
        Check.fires("0 0 0 31W 12 ? 2299", "2024-01-01T00:00:00", "2299-12-29T00:00:00", "none");
    }

    private static void noSuchDay() {
        Check.fires("0 0 0 31W * ?", "2024-03-30T00:00:00", "2024-05-31T00:00:00",
                "2024-07-31T00:00:00", "2024-08-30T00:00:00", "2024-10-31T00:00:00");
        Check.fires("0 0 0 30W 2 ?", "1970-01-01T00:00:00", "none");
        Check.fires("0 0 0 29W 2 ?", "2021-01-01T00:00:00", "2024-02-29T00:00:00",
                "2028-02-29T00:00:00");
        Check.fires("0 0 0 29W 2 ? 2100", "1970-01-01T00:00:00", "none");
        Check.fires("0 0 0 31W 4,6,9,11 ?", "1970-01-01T00:00:00", "none");
        // A day itself that a month has not.
        Check.fires("0 0 0 30 2 ?", "1970-01-01T00:00:00", "none");
        Check.fires("0 0 0 31 * ?", "2024-03-31T00:00:00", "2024-05-31T00:00:00");
        Check.fires("0 0 0 29 2 ?", "2096-03-01T00:00:00", "2104-02-29T00:00:00");
    }

    private static void saturday() {
        Check.fires("0 0 0 ? 6 L", "2024-05-30T00:00:00", "2024-06-01T00:00:00",
                "2024-06-08T00:00:00", "2024-06-15T00:00:00", "2024-06-22T00:00:00",
                "2024-06-29T00:00:00", "2025-06-07T00:00:00");
    }

    private static void lastWeekday() {
        // February 2024 has 29 days and begins with a Thursday, which it has five times.
        int[] dates = {25, 26, 27, 28, 29, 23, 24};
        for (int weekday = 1; weekday <= 7; weekday++) {
            Check.fires("0 0 0 ? 2 " + weekday + "L 2024", "2024-01-01T00:00:00",
                    "2024-02-" + dates[weekday - 1] + "T00:00:00", "none");
        }
        // Its last day, of 28, of 30, of 31.
        Check.fires("0 0 0 ? 2 TUEL 2023", "2023-01-01T00:00:00", "2023-02-28T00:00:00", "none");
        Check.fires("0 0 0 ? 2 WEDL 2023", "2023-01-01T00:00:00", "2023-02-22T00:00:00", "none");
        Check.fires("0 0 0 ? 6 SUNL 2024", "2024-01-01T00:00:00", "2024-06-30T00:00:00", "none");
        Check.fires("0 0 0 ? 6 MONL 2024", "2024-01-01T00:00:00", "2024-06-24T00:00:00", "none");
        Check.fires("0 0 0 ? 3 SUNL 2024", "2024-01-01T00:00:00", "2024-03-31T00:00:00", "none");
    }

    private static void nth() {
        // March 2024 begins with a Friday: five of Friday, Saturday, Sunday, four of others.
        for (int n = 1; n <= 5; n++) {
            String friday = String.format("2024-03-%02dT00:00:00", 7 * n - 6);
            String sunday = String.format("2024-03-%02dT00:00:00", 7 * n - 4);
            String thursday = String.format("2024-03-%02dT00:00:00", 7 * n);
            Check.fires("0 0 0 ? 3 FRI#" + n + " 2024", "2024-01-01T00:00:00", friday, "none");
            Check.fires("0 0 0 ? 3 1#" + n + " 2024", "2024-01-01T00:00:00", sunday, "none");
            Check.fires("0 0 0 ? 3 THU#" + n + " 2024", "2024-01-01T00:00:00",
                    n < 5 ? thursday : "none");
        }
        Check.fires("0 0 0 ? 2 THU#5", "2021-01-01T00:00:00", "2024-02-29T00:00:00",
                "2052-02-29T00:00:00");
        Check.fires("0 0 0 ? 2 THU#5 2023", "1970-01-01T00:00:00", "none");
        Check.fires("0 0 0 ? 4 WED#5 2024", "1970-01-01T00:00:00", "none");
        Check.fires("0 0 0 ? 4 TUE#5 2024", "1970-01-01T00:00:00", "2024-04-30T00:00:00", "none");
    }
}
