/** Promise 6: holiday. */
final class HolidayTest {
    public static void main(String[] args) {
        JobHouse house = new JobHouse();
        Check.is("one", house.holiday(0, 5, true), 1);
        Check.is("so already", house.holiday(0, 5, true), 1);
        Check.is("the first day", house.holiday(0, 0, true), 2);
        Check.is("the last day", house.holiday(0, 120529, true), 3);
        Check.is("not there", house.holiday(0, 6, false), 3);
        Check.is("not any more", house.holiday(0, 5, false), 2);
        Check.is("another calendar", house.holiday(3, 5, true), 1);
        ranges(house);
        full();
        keepsThemAll();
        wholeMonths();
        Check.finish();
    }

    private static void ranges(JobHouse house) {
        Check.fails("c -1", Check.RANGE, () -> house.holiday(-1, 0, true));
        Check.fails("c 4", Check.RANGE, () -> house.holiday(4, 0, true));
        Check.fails("day -1", Check.RANGE, () -> house.holiday(0, -1, false));
        Check.fails("day 120530", Check.RANGE, () -> house.holiday(0, 120530, true));
        Check.is("nothing changed", house.holiday(0, 7, false), 2);
    }

    private static void full() {
        JobHouse house = new JobHouse();
        for (int i = 0; i < 200; i++) {
            Check.is("holiday " + i, house.holiday(1, i * 7919 % 1000, true), i + 1);
        }
        Check.fails("201st", Check.FULL, () -> house.holiday(1, 2000, true));
        Check.is("so already", house.holiday(1, 7919 % 1000, true), 200);
        Check.is("not there", house.holiday(1, 2000, false), 200);
        Check.is("one goes", house.holiday(1, 0, false), 199);
        Check.is("another comes", house.holiday(1, 2000, true), 200);
        Check.fails("full again", Check.FULL, () -> house.holiday(1, 0, true));
        Check.is("the last one goes", house.holiday(1, 2000, false), 199);
        Check.is("and comes again", house.holiday(1, 2000, true), 200);
        Check.is("the others are empty", house.holiday(0, 0, true), 1);
    }

    /** Every day but the holidays fires, in whatever order these came and went. */
    private static void keepsThemAll() {
        JobHouse house = new JobHouse();
        Check.cron(house, 0, "0 0 0 * * ?");
        java.util.TreeSet<Integer> days = new java.util.TreeSet<>();
        java.util.Random random = new java.util.Random(6);
        for (int i = 0; i < 200; i++) {
            int day = 1 + random.nextInt(60);
            boolean yes = random.nextInt(3) != 0;
            boolean changed = yes ? days.add(day) : days.remove(day);
            Check.is("day " + day + (changed ? " changed" : " stays"),
                    house.holiday(2, day, yes), days.size());
        }
        for (int from = 0; from < 62; from++) {
            long due = from + 1;
            while (days.contains((int) due)) {
                due++;
            }
            Check.is("from " + from, house.next(0, 0, 2, from * 86400000L), due * 86400000L);
        }
    }

    /** Of March 1970 all days but one are holidays, and then that one, too. */
    private static void wholeMonths() {
        int first = Check.day("1970-03-01");
        for (int left = 0; left < 31; left += 10) {
            JobHouse house = new JobHouse();
            Check.cron(house, 0, "0 0 0 * 3 ?");
            for (int i = 0; i < 31; i++) {
                if (i != left) {
                    house.holiday(0, first + i, true);
                }
            }
            long due = (first + left) * 86400000L;
            Check.is("day " + left + " is left", house.next(0, 0, 0, 0), due);
            Check.is("day " + left + " is left, from behind",
                    house.last(0, 0, 0, Check.at("1970-12-01T00:00:00")), due);
            house.holiday(0, first + left, true);
            Check.is("none is left", house.next(0, 0, 0, 0), Check.at("1971-03-01T00:00:00"));
            Check.is("none is left, from behind",
                    house.last(0, 0, 0, Check.at("1970-12-01T00:00:00")), -1);
        }
    }
}
