import java.time.DayOfWeek;
import java.time.LocalDate;
import java.time.temporal.TemporalAdjusters;
import java.util.Map;
import java.util.Random;
import java.util.TreeMap;
import java.util.regex.Matcher;
import java.util.regex.Pattern;

/** A zone in its plainest form: every change of all years, in a map. */
final class PlainZone {
    private static final Pattern FORM = Pattern.compile(form());
    private static final int[] LOW = {0, 1, 1, 1, 0, 0, 1, 1, 0, 0};
    private static final int[] HIGH = {840, 120, 12, 5, 6, 1439, 12, 5, 6, 1439};

    final int base;
    final int save;
    /** From the second of a change on: summer or not. */
    private final TreeMap<Long, Boolean> changes = new TreeMap<>();

    PlainZone(String text) {
        String[] parts = text.split(" +");
        base = Integer.parseInt(parts[0]);
        save = parts.length > 1 ? Integer.parseInt(parts[1]) : 0;
        if (parts.length == 1) {
            return;
        }
        for (int year = 1970; year <= 2299; year++) {
            changes.put(second(parts[2], year) - base * 60L, true);
        }
        for (int year = 1970; year <= 2299; year++) {
            // Put later than the beginnings, so that an end at the same time wins.
            changes.put(second(parts[3], year) - (base + save) * 60L, false);
        }
    }

    private static String form() {
        String n = "[1-9][0-9]*";
        String zero = "(?:0|" + n + ")";
        String rule = "M" + n + "\\." + n + "\\." + zero + "/" + zero;
        return "[+-]" + zero + "(?: +" + n + " +" + rule + " +" + rule + ")?";
    }

    /** Where the text is broken, -1 if it is not. */
    static int placeOf(String text) {
        int place = PlainText.placeOf(text, FORM);
        Matcher matcher = Pattern.compile("[0-9]+").matcher(text);
        for (int i = 0; i < LOW.length && matcher.find(); i++) {
            if (!PlainText.isWithin(matcher.group(), LOW[i], HIGH[i])) {
                place = Math.min(place, matcher.start());
            }
        }
        return place == PlainText.NOWHERE ? -1 : place;
    }

    private static long second(String rule, int year) {
        String[] parts = rule.substring(1).split("[./]");
        int week = Integer.parseInt(parts[1]);
        int number = Integer.parseInt(parts[2]);
        DayOfWeek weekday = DayOfWeek.of(number == 0 ? 7 : number);
        LocalDate month = LocalDate.of(year, Integer.parseInt(parts[0]), 1);
        LocalDate date = month.with(week == 5 ? TemporalAdjusters.lastInMonth(weekday)
                : TemporalAdjusters.dayOfWeekInMonth(week, weekday));
        return date.toEpochDay() * 86400 + Integer.parseInt(parts[3]) * 60L;
    }

    int minutesAt(long t) {
        Map.Entry<Long, Boolean> change = changes.floorEntry(Math.floorDiv(t, 1000L));
        return change != null && change.getValue() ? base + save : base;
    }

    /** Often near to a change or to the edges of time. */
    long interestingTime(Random random) {
        long t = (long) (random.nextDouble() * (Check.END_OF_TIME + 1));
        int kind = random.nextInt(8);
        if (kind < 5 && !changes.isEmpty()) {
            Long change = changes.floorKey(t / 1000);
            change = change == null ? changes.firstKey() : change;
            long[] steps = {0, -1, 1, -1000, 999, 1000, 3600000, -3600000, 7200000, -7200000};
            t = change * 1000 + steps[random.nextInt(steps.length)];
            t += random.nextInt(3) == 0 ? random.nextInt(20000000) - 10000000 : 0;
        } else if (kind == 5) {
            t = random.nextInt(100000000);
        } else if (kind == 6) {
            t = Check.END_OF_TIME - random.nextInt(100000000);
        }
        return Math.max(0, Math.min(Check.END_OF_TIME, t));
    }

    static String randomText(Random random) {
        int most = random.nextInt(3) == 0 ? 840 : 120;
        int minutes = random.nextInt(2 * most + 1) - most;
        String text = (minutes < 0 ? "" : "+") + minutes;
        if (random.nextInt(5) == 0) {
            return text;
        }
        int save = random.nextInt(3) == 0 ? 1 + random.nextInt(120) : 60;
        String first = randomRule(random);
        String second = randomRule(random);
        if (random.nextInt(4) == 0) {
            // Both in one month, or at the turn of the year: where their order is delicate.
            first = first.replaceFirst("M\\d+", random.nextBoolean() ? "M1" : "M12");
            second = second.replaceFirst("M\\d+", random.nextBoolean() ? "M1" : "M12");
        }
        return text + " " + save + " " + first + "  " + second;
    }

    private static String randomRule(Random random) {
        int[] edges = {0, 1439, 60, 120, 1320, random.nextInt(1440)};
        return "M" + (1 + random.nextInt(12)) + "." + (1 + random.nextInt(5)) + "."
                + random.nextInt(7) + "/" + edges[random.nextInt(edges.length)];
    }
}
