/** FIRES, promises 6, 7 and 8: each sentence that names a boundary has a test of its own. */
final class FireEdgesTest {
    private static final long DAY = 86400000L;
    private static final long END = Check.END_OF_TIME;

    public static void main(String[] args) {
        Check.sentence("TIME is told in milliseconds since the beginning of 1970 (universal time),"
                + " 0 .. 10413791999999 (the end of 2299).", FireEdgesTest::times);
        Check.sentence("CALENDAR c 0 .. 3 or none (-1)", FireEdgesTest::calendars);
        Check.sentence("whole seconds", FireEdgesTest::wholeSeconds);
        Check.sentence("whose LOCAL second, minute, hour, day, month, weekday, year all are such",
                FireEdgesTest::allAreSuch);
        Check.sentence("whose LOCAL DAY is no HOLIDAY of the CALENDAR", FireEdgesTest::localDay);
        Check.sentence("(DAYS, none at first; of LOCAL days before 0 and behind 120529 none)",
                FireEdgesTest::noneAtFirst);
        Check.sentence("FIRES are TIMES.", FireEdgesTest::firesAreTimes);
        Check.sentence("No CRON was told: no FIRES.", FireEdgesTest::notTold);
        Check.sentence("c 0 .. 3, day 0 .. 120529", FireEdgesTest::rangesOfHoliday);
        Check.sentence("That DAY is a HOLIDAY of CALENDAR c, or not any more.",
                FireEdgesTest::orNotAnyMore);
        Check.sentence("Answers how many it has (what is so already changes nothing)",
                FireEdgesTest::soAlready);
        Check.sentence("more than 200: IndexOutOfBoundsException", FireEdgesTest::full);
        Check.sentence("k 0 .. 15, z 0 .. 7, c -1 .. 3, t a TIME (so for all)",
                FireEdgesTest::rangesOfSearch);
        Check.sentence("The first of the FIRES behind t", () -> {
            behindT();
            overADay(true);
        });
        Check.sentence("The last of the FIRES not behind t", () -> {
            notBehindT();
            overADay(false);
        });
        Check.sentence("-1 without", FireEdgesTest::without);
        Check.sentence("LOCAL time is universal time and OFFSET, and in SUMMER SAVE besides.",
                FireEdgesTest::leftOutAndAgain);
        Check.finish();
    }

    private static JobHouse with(String cron, String zone) {
        JobHouse house = new JobHouse();
        Check.cron(house, 0, cron);
        Check.zone(house, 0, zone);
        return house;
    }

    private static void times() {
        JobHouse house = with("* * * * * ?", "+0");
        long[] wrong = {-1, Check.END_OF_TIME + 1, Long.MIN_VALUE, Long.MAX_VALUE};
        for (long t : wrong) {
            Check.fails("next at " + t, Check.RANGE, () -> house.next(0, 0, -1, t));
            Check.fails("last at " + t, Check.RANGE, () -> house.last(0, 0, -1, t));
            Check.fails("local at " + t, Check.RANGE, () -> house.local(0, t, 0));
        }
        Check.is("next at 0", house.next(0, 0, -1, 0), 1000);
        Check.is("last at 0", house.last(0, 0, -1, 0), 0);
        Check.is("next at the end", house.next(0, 0, -1, Check.END_OF_TIME), -1);
        Check.is("last at the end", house.last(0, 0, -1, Check.END_OF_TIME), 10413791999000L);
        Check.is("year at the end", house.local(0, Check.END_OF_TIME, 5), 2299);
        Check.is("year at 0", house.local(0, 0, 5), 1970);
    }

    private static void calendars() {
        JobHouse house = with("0 0 0 * * ?", "+0");
        for (int c = 0; c <= 3; c++) {
            for (int day = 1; day <= c + 1; day++) {
                house.holiday(c, day, true);
            }
        }
        for (int c = -1; c <= 3; c++) {
            Check.is("next " + c, house.next(0, 0, c, 0), (c + 2) * DAY);
            Check.is("last " + c, house.last(0, 0, c, DAY), c < 0 ? DAY : 0);
        }
        int[] wrong = {-2, 4, Integer.MIN_VALUE, Integer.MAX_VALUE};
        for (int c : wrong) {
            Check.fails("next " + c, Check.RANGE, () -> house.next(0, 0, c, 0));
            Check.fails("last " + c, Check.RANGE, () -> house.last(0, 0, c, 0));
            Check.fails("makeCron " + c, Check.RANGE, () -> house.makeCron(0, 0, c, 0, 0, 0, 0));
            Check.fails("holiday " + c, Check.RANGE, () -> house.holiday(c, 0, true));
        }
        Check.fails("holiday -1", Check.RANGE, () -> house.holiday(-1, 0, true));
    }

    private static void wholeSeconds() {
        JobHouse house = with("* * * * * ?", "+0");
        for (int t = 0; t < 3000; t += t % 1000 == 998 || t % 1000 == 999 ? 1 : 499) {
            Check.is("next at " + t, house.next(0, 0, -1, t), t / 1000 * 1000 + 1000);
            Check.is("last at " + t, house.last(0, 0, -1, t), t / 1000 * 1000);
        }
    }

    private static void allAreSuch() {
        // The 29th of February 2024, a Thursday, 13:14:15, in a zone of two hours.
        long fire = Check.at("2024-02-29T11:14:15");
        String zone = "+120";
        Check.is("all", with("15 14 13 29 2 ? 2024", zone).last(0, 0, -1, fire), fire);
        Check.is("all by weekday", with("15 14 13 ? 2 THU 2024", zone).last(0, 0, -1, fire), fire);
        String[] others = {"16 14 13 29 2 ? 2024", "15 15 13 29 2 ? 2024", "15 14 11 29 2 ? 2024",
            "15 14 13 28 2 ? 2024", "15 14 13 29 3 ? 2024", "15 14 13 ? 2 FRI 2024",
            "15 14 13 29 2 ? 2028"};
        for (String other : others) {
            JobHouse house = with(other, zone);
            Check.is(other, house.next(0, 0, -1, fire - 1) == fire ? 1 : 0, 0);
            Check.is(other, house.last(0, 0, -1, fire) == fire ? 1 : 0, 0);
        }
    }

    private static void localDay() {
        int[] offsets = {-840, -1, 0, 1, 840};
        for (int offset : offsets) {
            JobHouse house = with("0 0,59 0,23 10-12 1 ? 1970", (offset < 0 ? "" : "+") + offset);
            house.holiday(2, 10, true);
            // The 11th of January is the holiday; its first fire and its last one are none.
            long tenth = 9 * DAY + (23 * 60 + 59 - offset) * 60000L;
            long twelfth = 11 * DAY - offset * 60000L;
            Check.is("next " + offset, house.next(0, 0, 2, tenth), twelfth);
            Check.is("last " + offset, house.last(0, 0, 2, twelfth - 1), tenth);
            Check.is("without it " + offset, house.next(0, 0, 1, tenth), 10 * DAY
                    - offset * 60000L);
        }
    }

    private static void noneAtFirst() {
        JobHouse house = with("0 0 0 * * ?", "+0");
        for (int c = 0; c < 4; c++) {
            Check.is("calendar " + c, house.holiday(c, 0, false), 0);
            Check.is("the first day fires", house.last(0, 0, c, 0), 0);
            Check.is("the last day fires", house.last(0, 0, c, Check.END_OF_TIME), 120529 * DAY);
        }
        house.holiday(0, 0, true);
        house.holiday(0, 120529, true);
        Check.is("the first day does not", house.last(0, 0, 0, DAY - 1), -1);
        Check.is("the last day does not", house.last(0, 0, 0, Check.END_OF_TIME), 120528 * DAY);
        Check.is("nor forwards", house.next(0, 0, 0, 120528 * DAY), -1);
        // The local day before 0, and the one behind 120529, are those of no year.
        Check.zone(house, 1, "-840");
        Check.zone(house, 2, "+840");
        Check.is("day -1", house.next(0, 1, 0, 0), DAY + 840 * 60000L);
        Check.is("day -1, backwards", house.last(0, 1, 0, DAY), -1);
        Check.is("day 120530", house.next(0, 2, 0, Check.END_OF_TIME - DAY), -1);
        Check.is("day 120530, backwards", house.last(0, 2, 0, Check.END_OF_TIME),
                120528 * DAY - 840 * 60000L);
        Check.is("local there", house.local(1, 0, 5) + house.local(2, Check.END_OF_TIME, 5),
                1969 + 2300);
    }

    private static void firesAreTimes() {
        JobHouse west = with("0 59 9 31 12 ? 2299", "-840");
        Check.is("the last minute", west.next(0, 0, -1, 0), Check.END_OF_TIME + 1 - 60000);
        Check.cron(west, 0, "0 0 10 31 12 ? 2299");
        Check.is("a minute later is none", west.next(0, 0, -1, 0), -1);
        Check.is("nor is it the last", west.last(0, 0, -1, Check.END_OF_TIME), -1);
        JobHouse east = with("0 0 14 1 1 ? 1970", "+840");
        Check.is("0 is one", east.last(0, 0, -1, Check.END_OF_TIME), 0);
        Check.cron(east, 0, "59 59 13 1 1 ? 1970");
        Check.is("a second earlier is none", east.last(0, 0, -1, Check.END_OF_TIME), -1);
        Check.is("nor is it the next", east.next(0, 0, -1, 0), -1);
        // The first second of 1970, behind a change of time and before one.
        String[] zones = {"-840", "-840 60 M6.1.0/0 M1.1.4/0", "-840 60 M3.5.0/120 M10.5.0/180"};
        for (String zone : zones) {
            JobHouse first = with("0 0 0 1 1 ? 1970", zone);
            Check.is("the first in " + zone, first.next(0, 0, -1, 0), 840 * 60000L);
            Check.is("and the last", first.last(0, 0, -1, Check.END_OF_TIME), 840 * 60000L);
            Check.is("none before it", first.last(0, 0, -1, 840 * 60000L - 1), -1);
        }
        JobHouse summer = with("0 30 15 31 12 ? 2299", "-540 60 M6.1.0/0 M1.1.0/0");
        Check.is("in summer, too", summer.next(0, 0, -1, 0), Check.END_OF_TIME + 1 - 1800000);
        Check.cron(summer, 0, "0 0 16 31 12 ? 2299");
        Check.is("and not beyond", summer.next(0, 0, -1, 0), -1);
    }

    private static void notTold() {
        JobHouse house = with("* * * * * ?", "+0");
        Check.feed(house, "* * * * * ? x");
        Check.failsVoid("a broken one", Check.BROKEN, () -> house.cron(1));
        for (int k = 1; k < 16; k++) {
            Check.is("next " + k, house.next(k, 0, -1, 0), -1);
            Check.is("last " + k, house.last(k, 0, -1, Check.END_OF_TIME), -1);
            int number = k;
            Check.fails("makeCron " + k, Check.BROKEN,
                    () -> house.makeCron(number, 0, -1, 0, 0, 0, 0));
        }
    }

    private static void rangesOfHoliday() {
        JobHouse house = new JobHouse();
        int[] calendars = {-1, 4, Integer.MIN_VALUE, Integer.MAX_VALUE};
        int[] days = {-1, 120530, Integer.MIN_VALUE, Integer.MAX_VALUE};
        for (int i = 0; i < 4; i++) {
            int c = calendars[i];
            int day = days[i];
            Check.fails("c " + c, Check.RANGE, () -> house.holiday(c, 0, true));
            Check.fails("c " + c, Check.RANGE, () -> house.holiday(c, 0, false));
            Check.fails("day " + day, Check.RANGE, () -> house.holiday(0, day, true));
            Check.fails("day " + day, Check.RANGE, () -> house.holiday(0, day, false));
        }
        for (int c = 0; c < 4; c++) {
            Check.is("day 0 of " + c, house.holiday(c, 0, true), 1);
            Check.is("day 120529 of " + c, house.holiday(c, 120529, true), 2);
        }
    }

    private static void orNotAnyMore() {
        JobHouse house = with("0 0 0 * * ?", "+0");
        int[] days = {3, 1, 2};
        for (int day : days) {
            house.holiday(3, day, true);
        }
        Check.is("three days", house.next(0, 0, 3, 0), 4 * DAY);
        house.holiday(3, 2, false);
        Check.is("the middle one comes back", house.next(0, 0, 3, 0), 2 * DAY);
        Check.is("the others don't", house.next(0, 0, 3, 2 * DAY), 4 * DAY);
        house.holiday(3, 3, false);
        Check.is("the last one, too", house.next(0, 0, 3, 2 * DAY), 3 * DAY);
        house.holiday(3, 1, false);
        Check.is("and the first one", house.next(0, 0, 3, 0), DAY);
        house.holiday(3, 1, true);
        Check.is("and goes again", house.next(0, 0, 3, 0), 2 * DAY);
    }

    private static void soAlready() {
        JobHouse house = with("0 0 0 * * ?", "+0");
        Check.is("none of none", house.holiday(0, 9, false), 0);
        Check.is("one", house.holiday(0, 9, true), 1);
        Check.is("so already", house.holiday(0, 9, true), 1);
        Check.is("not so already", house.holiday(0, 8, false), 1);
        Check.is("it still is one", house.next(0, 0, 0, 8 * DAY), 10 * DAY);
        Check.is("not any more", house.holiday(0, 9, false), 0);
        Check.is("not so already", house.holiday(0, 9, false), 0);
        Check.is("it is none", house.next(0, 0, 0, 8 * DAY), 9 * DAY);
        Check.is("once more", house.holiday(0, 9, true), 1);
        Check.is("of another calendar", house.holiday(1, 9, false), 0);
    }

    private static void full() {
        JobHouse house = with("0 0 0 * * ?", "+0");
        for (int i = 1; i <= 200; i++) {
            Check.is("day " + i, house.holiday(0, i, true), i);
        }
        int[] days = {0, 201, 120529};
        for (int day : days) {
            Check.fails("a 201st, " + day, Check.FULL, () -> house.holiday(0, day, true));
            Check.is("it is none", house.holiday(0, day, false), 200);
        }
        Check.is("so already", house.holiday(0, 1, true), 200);
        Check.is("so already", house.holiday(0, 200, true), 200);
        Check.fails("range ahead of full", Check.RANGE, () -> house.holiday(0, 120530, true));
        Check.is("the 200 stay", house.next(0, 0, 0, 0), 201 * DAY);
        Check.is("no other came", house.last(0, 0, 0, 200 * DAY), 0);
        Check.is("another calendar has room", house.holiday(1, 0, true), 1);
        Check.is("one goes", house.holiday(0, 100, false), 199);
        Check.is("there is room again", house.holiday(0, 201, true), 200);
        Check.fails("and none", Check.FULL, () -> house.holiday(0, 100, true));
    }

    private static void rangesOfSearch() {
        JobHouse house = with("* * * * * ?", "+0");
        int[][] wrong = {{-1, 0, 0}, {16, 0, 0}, {0, -1, 0}, {0, 8, 0}, {0, 0, -2}, {0, 0, 4}};
        for (int[] w : wrong) {
            String call = w[0] + ", " + w[1] + ", " + w[2];
            Check.fails("next " + call, Check.RANGE, () -> house.next(w[0], w[1], w[2], 0));
            Check.fails("last " + call, Check.RANGE, () -> house.last(w[0], w[1], w[2], 0));
        }
        Check.is("the greatest", house.next(15, 7, 3, Check.END_OF_TIME), -1);
        Check.is("the least", house.next(0, 0, -1, 0), 1000);
    }

    private static void behindT() {
        JobHouse house = with("30 0 0 * * ?", "+0");
        Check.is("at 0", house.next(0, 0, -1, 0), 30000);
        Check.is("just before", house.next(0, 0, -1, 29999), 30000);
        Check.is("not itself", house.next(0, 0, -1, 30000), DAY + 30000);
        Check.is("within its second", house.next(0, 0, -1, 30999), DAY + 30000);
        JobHouse end = with("59 59 23 31 12 ?", "+0");
        Check.is("before the last one", end.next(0, 0, -1, 10413791998999L), 10413791999000L);
        Check.is("the last one", end.next(0, 0, -1, 10413791999000L), -1);
    }

    private static void notBehindT() {
        JobHouse house = with("30 0 0 * * ?", "+0");
        Check.is("just before the first", house.last(0, 0, -1, 29999), -1);
        Check.is("itself", house.last(0, 0, -1, 30000), 30000);
        Check.is("within its second", house.last(0, 0, -1, 30999), 30000);
        Check.is("just before the second", house.last(0, 0, -1, DAY + 29999), 30000);
        Check.is("the second", house.last(0, 0, -1, DAY + 30000), DAY + 30000);
        JobHouse begin = with("0 0 0 1 1 ?", "+0");
        Check.is("0 itself", begin.last(0, 0, -1, 0), 0);
    }

    /** Fires whose seconds, minutes and hours all turn over, at the ends of a day and within it. */
    private static void overADay(boolean forwards) {
        overADay(forwards, new int[] {0, 3, 14, 23}, new int[] {0, 20, 59}, new int[] {0, 10, 59});
        overADay(forwards, new int[] {1, 4, 5, 22}, new int[] {1, 2, 58}, new int[] {1, 30, 58});
        overADay(forwards, new int[] {1, 4, 5, 22}, new int[] {1, 2, 59}, new int[] {1, 30, 59});
    }

    private static String told(int[] numbers) {
        return java.util.Arrays.toString(numbers).replaceAll("[\\[\\] ]", "");
    }

    private static void overADay(boolean forwards, int[] hours, int[] minutes, int[] seconds) {
        String cron = told(seconds) + " " + told(minutes) + " " + told(hours) + " 5-6 1 ? 1970";
        JobHouse house = with(cron, "+0");
        long before = -1;
        for (int i = 0; i < 72; i++) {
            int time = hours[i / 9 % 4] * 3600 + minutes[i / 3 % 3] * 60 + seconds[i % 3];
            long fire = (4 + i / 36) * DAY + time * 1000L;
            long hour = fire / 3600000 * 3600000;
            long[] times = {before, (before + fire) / 2, hour - 2000, hour, fire - 1000, fire - 1};
            for (long t : times) {
                if (t >= Math.max(before, 0) && t < fire) {
                    Check.is("at " + t, forwards ? house.next(0, 0, -1, t)
                            : house.last(0, 0, -1, t), forwards ? fire : before);
                }
            }
            before = fire;
        }
        Check.is("behind all of them", forwards ? house.next(0, 0, -1, before)
                : house.last(0, 0, -1, END), forwards ? -1 : before);
    }

    private static void without() {
        JobHouse house = with("0 0 0 31 2 ?", "+60 60 M3.5.0/120 M10.5.0/180");
        Check.is("a day that never is", house.next(0, 0, -1, 0), -1);
        Check.is("backwards", house.last(0, 0, -1, Check.END_OF_TIME), -1);
        Check.cron(house, 0, "0 30 2 ? 3 SUNL");
        Check.is("an hour that is always left out", house.next(0, 0, -1, 0), -1);
        Check.is("backwards", house.last(0, 0, -1, Check.END_OF_TIME), -1);
        Check.cron(house, 0, "0 0 12 1 6 ? 2024");
        long only = Check.at("2024-06-01T10:00:00");
        Check.is("one", house.next(0, 0, -1, only - 1), only);
        Check.is("none behind it", house.next(0, 0, -1, only), -1);
        Check.is("none before it", house.last(0, 0, -1, only - 1), -1);
        house.holiday(0, Check.day("2024-06-01"), true);
        Check.is("and it is a holiday", house.next(0, 0, 0, 0), -1);
        Check.is("backwards", house.last(0, 0, 0, Check.END_OF_TIME), -1);
    }

    /** The hour that is left out in spring, and the one that comes twice in autumn. */
    private static void leftOutAndAgain() {
        leftOutAndAgain("+60 60 M3.5.0/120 M10.5.0/180", 60);
        leftOutAndAgain("-300 60 M3.5.0/120 M10.5.0/180", -300);
        leftOutAndAgain("+0 60 M3.5.0/120 M10.5.0/180", 0);
    }

    private static void leftOutAndAgain(String zone, int offset) {
        JobHouse house = with("0 0,30 2 * * ?", zone);
        long spring = Check.at("2024-03-31T02:00:00") - offset * 60000L;
        Check.is("the day before", house.last(0, 0, -1, spring), spring - DAY + 1800000);
        Check.is("the day behind", house.next(0, 0, -1, spring - DAY + 1800000),
                spring + DAY - 3600000);
        long autumn = Check.at("2024-10-27T02:00:00") - offset * 60000L;
        long[] due = {autumn - 3600000, autumn - 1800000, autumn, autumn + 1800000, autumn + DAY};
        firesAre(house, autumn - DAY - 1800000, due);
        // On that day alone: the search has nowhere else to go.
        Check.cron(house, 0, "0 15 2 27 10 ? 2024");
        firesAre(house, -1, new long[] {autumn - 2700000, autumn + 900000, -1});
        Check.cron(house, 0, "59 59 2 27 10 ? 2024");
        firesAre(house, -1, new long[] {autumn - 1000, autumn + 3599000, -1});
        Check.cron(house, 0, "0 0 3 27 10 ? 2024");
        firesAre(house, -1, new long[] {autumn + 3600000, -1});
        Check.cron(house, 0, "0 0 3 31 3 ? 2024");
        firesAre(house, -1, new long[] {spring, -1});
        Check.cron(house, 0, "59 59 1 31 3 ? 2024");
        firesAre(house, -1, new long[] {spring - 1000, -1});
    }

    /** The fires behind the first one, which is there (or -1: there is none). */
    private static void firesAre(JobHouse house, long first, long[] due) {
        long before = first;
        for (long fire : due) {
            long then = fire < 0 ? END : fire;
            Check.is("next", house.next(0, 0, -1, Math.max(before, 0)), fire);
            Check.is("just before it", house.last(0, 0, -1, then - 1), before);
            Check.is("itself", house.last(0, 0, -1, then), fire < 0 ? before : fire);
            if (before >= 0 && fire >= 0) {
                long middle = (before + fire) / 2;
                Check.is("from between", house.next(0, 0, -1, middle), fire);
                Check.is("up to between", house.last(0, 0, -1, middle), before);
            }
            before = fire;
        }
    }
}
