import java.time.DayOfWeek;
import java.time.LocalDate;
import java.time.temporal.TemporalAdjusters;
import java.util.BitSet;
import java.util.List;
import java.util.Set;
import java.util.regex.Matcher;
import java.util.regex.Pattern;

/** Cron expressions in their plainest form: texts by a pattern, fires by trying each second. */
final class PlainCron {
    private static final List<String> MONTHS = List.of("JAN", "FEB", "MAR", "APR", "MAY", "JUN",
            "JUL", "AUG", "SEP", "OCT", "NOV", "DEC");
    private static final List<String> WEEKDAYS = List.of("SUN", "MON", "TUE", "WED", "THU", "FRI",
            "SAT");
    private static final int[] LOW = {0, 0, 0, 1, 1, 1, 1970};
    private static final int[] HIGH = {59, 59, 23, 31, 12, 7, 2299};
    /** Stand-ins for whole names, so that a part of a name matches nothing. */
    private static final String MONTH_NAME = "\uE001\uE000\uE000";
    private static final String WEEKDAY_NAME = "\uE002\uE000\uE000";
    private static final Pattern FORM = Pattern.compile(form());

    private final BitSet[] sets = new BitSet[7];
    private final String day;
    private final String weekday;
    private BitSet dates;

    PlainCron(String text) {
        String[] fields = text.split(" +");
        day = fields[3];
        weekday = fields[5];
        for (int i = 0; i < 7; i++) {
            sets[i] = new BitSet();
            boolean rule = i == 3 && day.matches(".*[?LW].*")
                    || i == 5 && weekday.matches("\\?|.*[L#].*");
            if (!rule) {
                addField(i, i < fields.length ? fields[i] : "*");
            }
        }
    }

    private static String form() {
        String n = "[1-9][0-9]*";
        String low = list("(?:0|" + n + ")");
        String month = list("(?:" + n + "|" + MONTH_NAME + ")");
        String weekdayValue = "(?:" + n + "|" + WEEKDAY_NAME + ")";
        String day = "(?:L(?:W|-" + n + ")?|" + n + "W|" + list(n) + ")";
        String weekday = "(?:L|" + weekdayValue + "L|" + weekdayValue + "#" + n + "|"
                + list(weekdayValue) + ")";
        return low + " +" + low + " +" + low + " +(?:" + day + " +" + month + " +\\?|\\? +" + month
                + " +" + weekday + ")(?: +" + list(n) + ")?";
    }

    private static String list(String value) {
        String n = "[1-9][0-9]*";
        String item = "(?:\\*(?:/" + n + ")?|" + value + "(?:-" + value + ")?(?:/" + n + ")?)";
        return item + "(?:," + item + ")*";
    }

    /** Where the text is broken, -1 if it is not. */
    static int placeOf(String text) {
        String bytes = text;
        for (String name : MONTHS) {
            bytes = bytes.replace(name, MONTH_NAME);
        }
        for (String name : WEEKDAYS) {
            bytes = bytes.replace(name, WEEKDAY_NAME);
        }
        int place = Math.min(PlainText.placeOf(bytes, FORM), firstNumberOutOfRange(bytes));
        return place == PlainText.NOWHERE ? -1 : place;
    }

    private static int firstNumberOutOfRange(String bytes) {
        Matcher matcher = Pattern.compile("[0-9]+").matcher(bytes);
        while (matcher.find()) {
            int begin = matcher.start();
            String before = bytes.substring(0, begin);
            int field = before.split(" +", -1).length - 1;
            if (field > 6) {
                break;
            }
            int low = LOW[field];
            int high = HIGH[field];
            if (before.endsWith("/")) {
                low = 1;
                high = 99;
            } else if (before.endsWith("#")) {
                low = 1;
                high = 5;
            } else if (before.endsWith("L-")) {
                low = 1;
                high = 30;
            } else if (field == 6 && before.matches(".*[0-9]-")) {
                String first = before.replaceAll("[^0-9]", " ").trim().replaceAll(".* ", "");
                low = Math.max(low, new java.math.BigDecimal(first).min(
                        java.math.BigDecimal.valueOf(9999)).intValue());
            }
            if (!PlainText.isWithin(matcher.group(), low, high)) {
                return begin;
            }
        }
        return PlainText.NOWHERE;
    }

    private void addField(int field, String text) {
        for (String item : text.split(",")) {
            String[] parts = item.split("/");
            int step = parts.length > 1 ? Integer.parseInt(parts[1]) : 1;
            int low = LOW[field];
            int high = HIGH[field];
            if (!parts[0].equals("*")) {
                String[] ends = parts[0].split("-");
                low = number(field, ends[0]);
                high = ends.length > 1 ? number(field, ends[1]) : parts.length > 1 ? high : low;
            }
            int value = low;
            for (int i = 0; ; i++) {
                if (i % step == 0) {
                    sets[field].set(value);
                }
                if (value == high) {
                    break;
                }
                value = value == HIGH[field] ? LOW[field] : value + 1;
            }
        }
    }

    private static int number(int field, String text) {
        int name = (field == 4 ? MONTHS : WEEKDAYS).indexOf(text);
        return name >= 0 ? name + 1 : Integer.parseInt(text);
    }

    private boolean hasDate(LocalDate date) {
        if (!sets[4].get(date.getMonthValue()) || !sets[6].get(date.getYear())) {
            return false;
        }
        if (weekday.equals("?")) {
            return dayFits(date);
        }
        if (weekday.equals("L")) {
            return date.getDayOfWeek() == DayOfWeek.SATURDAY;
        }
        if (weekday.endsWith("L")) {
            DayOfWeek name = weekdayOf(weekday.substring(0, weekday.length() - 1));
            return date.equals(date.with(TemporalAdjusters.lastInMonth(name)));
        }
        if (weekday.contains("#")) {
            String[] parts = weekday.split("#");
            return date.getDayOfWeek() == weekdayOf(parts[0])
                    && (date.getDayOfMonth() + 6) / 7 == Integer.parseInt(parts[1]);
        }
        return sets[5].get(date.getDayOfWeek().getValue() % 7 + 1);
    }

    private static DayOfWeek weekdayOf(String text) {
        int number = number(5, text);
        return DayOfWeek.of(number == 1 ? 7 : number - 1);
    }

    private boolean dayFits(LocalDate date) {
        LocalDate end = date.with(TemporalAdjusters.lastDayOfMonth());
        if (day.equals("LW")) {
            return date.equals(nearestWorkday(end));
        }
        if (day.startsWith("L")) {
            int before = day.equals("L") ? 0 : Integer.parseInt(day.substring(2));
            return date.equals(end.minusDays(before));
        }
        if (day.endsWith("W")) {
            int number = Integer.parseInt(day.substring(0, day.length() - 1));
            return number <= end.getDayOfMonth()
                    && date.equals(nearestWorkday(date.withDayOfMonth(number)));
        }
        return sets[3].get(date.getDayOfMonth());
    }

    private static LocalDate nearestWorkday(LocalDate date) {
        int[] steps = {0, -1, 1, -2, 2};
        for (int step : steps) {
            LocalDate near = date.plusDays(step);
            if (near.getDayOfWeek().getValue() < 6 && near.getMonth() == date.getMonth()) {
                return near;
            }
        }
        throw new AssertionError("five days hold a workday");
    }

    private BitSet dates() {
        if (dates == null) {
            dates = new BitSet();
            for (int i = 0; i <= 120529; i++) {
                dates.set(i, hasDate(LocalDate.ofEpochDay(i)));
            }
        }
        return dates;
    }

    private boolean mayFireOn(long universalDay) {
        for (long i = Math.max(0, universalDay - 1); i <= universalDay + 1; i++) {
            if (dates().get((int) i)) {
                return true;
            }
        }
        return false;
    }

    private boolean fires(long second, PlainZone zone, Set<Integer> holidays) {
        if (!sets[0].get((int) (second % 60))) {
            return false;
        }
        long local = second + zone.minutesAt(second * 1000) * 60L;
        int date = (int) Math.floorDiv(local, 86400L);
        int time = (int) Math.floorMod(local, 86400L);
        return sets[1].get(time / 60 % 60) && sets[2].get(time / 3600) && date >= 0
                && dates().get(date) && !holidays.contains(date);
    }

    long next(PlainZone zone, Set<Integer> holidays, long t) {
        long second = t / 1000 + 1;
        while (second <= Check.END_OF_TIME / 1000) {
            if (!mayFireOn(second / 86400)) {
                second = (second / 86400 + 1) * 86400;
            } else if (fires(second, zone, holidays)) {
                return second * 1000;
            } else {
                second++;
            }
        }
        return -1;
    }

    long last(PlainZone zone, Set<Integer> holidays, long t) {
        long second = t / 1000;
        while (second >= 0) {
            if (!mayFireOn(second / 86400)) {
                second = second / 86400 * 86400 - 1;
            } else if (fires(second, zone, holidays)) {
                return second * 1000;
            } else {
                second--;
            }
        }
        return -1;
    }
}
