import java.util.HashSet;
import java.util.Random;
import java.util.Set;

/** Promises 7 and 8: next and last. */
final class FiresTest {
    public static void main(String[] args) {
        days();
        fields();
        changesOfTime();
        atTheVeryChange();
        timesThatComeAgain();
        edgesOfTime();
        holidays();
        randomOnes();
        ranges();
        Check.finish();
    }

    private static void nextIs(String cron, String from, String due) {
        JobHouse house = new JobHouse();
        Check.cron(house, 9, cron);
        long fire = due.isEmpty() ? -1 : Check.at(due);
        Check.is(cron + " behind " + from, house.next(9, 0, -1, Check.at(from)), fire);
        if (fire >= 0) {
            Check.is(cron + " up to " + due, house.last(9, 0, -1, fire + 999), fire);
            long before = house.last(9, 0, -1, fire - 1);
            Check.is(cron + " none between", before <= Check.at(from) ? 1 : 0, 1);
        }
    }

    private static void days() {
        nextIs("0 0 0 L * ?", "2024-02-01T00:00:00", "2024-02-29T00:00:00");
        nextIs("0 0 0 L * ?", "2023-02-01T00:00:00", "2023-02-28T00:00:00");
        nextIs("0 0 0 L 2 ?", "2100-01-01T00:00:00", "2100-02-28T00:00:00");
        nextIs("0 0 0 L-28 2 ?", "2021-01-01T00:00:00", "2024-02-01T00:00:00");
        nextIs("0 0 0 L-30 * ?", "2023-02-01T00:00:00", "2023-03-01T00:00:00");
        nextIs("0 0 0 L-29 2 ?", "2021-01-01T00:00:00", "");
        nextIs("0 0 0 30 2 ?", "1970-01-01T00:00:00", "");
        nextIs("0 0 0 29 2 ?", "2097-01-01T00:00:00", "2104-02-29T00:00:00");
        nextIs("0 0 0 29 2 ? 2200", "1970-01-01T00:00:00", "");
        nextIs("0 0 0 LW * ?", "2024-03-01T00:00:00", "2024-03-29T00:00:00");
        nextIs("0 0 0 LW * ?", "2024-06-01T00:00:00", "2024-06-28T00:00:00");
        nextIs("0 0 0 LW * ?", "2024-07-01T00:00:00", "2024-07-31T00:00:00");
        nextIs("0 0 0 1W * ?", "2024-05-31T00:00:00", "2024-06-03T00:00:00");
        nextIs("0 0 0 1W * ?", "2024-08-31T00:00:00", "2024-09-02T00:00:00");
        nextIs("0 0 0 2W * ?", "2024-02-20T00:00:00", "2024-03-01T00:00:00");
        nextIs("0 0 0 2W * ?", "2024-05-31T00:00:00", "2024-06-03T00:00:00");
        nextIs("0 0 0 30W * ?", "2023-07-01T00:00:00", "2023-07-31T00:00:00");
        nextIs("0 0 0 30W * ?", "2024-06-01T00:00:00", "2024-06-28T00:00:00");
        nextIs("0 0 0 15W * ?", "2024-06-01T00:00:00", "2024-06-14T00:00:00");
        nextIs("0 0 0 15W * ?", "2024-09-01T00:00:00", "2024-09-16T00:00:00");
        nextIs("0 0 0 31W 3 ?", "2024-01-01T00:00:00", "2024-03-29T00:00:00");
        nextIs("0 0 0 31W * ?", "2024-04-01T00:00:00", "2024-05-31T00:00:00");
        nextIs("0 0 0 29W 2 ?", "2021-01-01T00:00:00", "2024-02-29T00:00:00");
        nextIs("0 0 0 ? * L", "2024-01-01T00:00:00", "2024-01-06T00:00:00");
        nextIs("0 0 0 ? * 6L", "2024-02-01T00:00:00", "2024-02-23T00:00:00");
        nextIs("0 0 0 ? * THUL", "2024-02-01T00:00:00", "2024-02-29T00:00:00");
        nextIs("0 0 0 ? * 6#3", "2024-02-01T00:00:00", "2024-02-16T00:00:00");
        nextIs("0 0 0 ? 2 THU#5", "2021-01-01T00:00:00", "2024-02-29T00:00:00");
        nextIs("0 0 0 ? 2 FRI#5", "2285-01-01T00:00:00", "");
        nextIs("0 0 0 ? * FRI-MON", "2024-01-01T00:00:00", "2024-01-05T00:00:00");
        nextIs("0 0 0 ? * TUE", "1970-01-01T00:00:00", "1970-01-06T00:00:00");
    }

    private static void fields() {
        nextIs("50/7 0 0 1 1 ?", "2024-01-01T00:00:50", "2024-01-01T00:00:57");
        nextIs("50/7 0 0 1 1 ?", "2024-01-01T00:00:57", "2025-01-01T00:00:50");
        nextIs("55-3/4 0 0 1 1 ?", "2023-06-01T00:00:00", "2024-01-01T00:00:03");
        nextIs("55-3/4 0 0 1 1 ?", "2024-01-01T00:00:03", "2024-01-01T00:00:55");
        nextIs("55-3/4 0 0 1 1 ?", "2024-01-01T00:00:55", "2024-01-01T00:00:59");
        nextIs("*/40 0 0 1 1 ?", "2024-01-01T00:00:00", "2024-01-01T00:00:40");
        nextIs("0 */99 5 1 1 ?", "2024-01-01T00:00:00", "2024-01-01T05:00:00");
        nextIs("0 59 23 31 12 ?", "2024-01-01T00:00:00", "2024-12-31T23:59:00");
        nextIs("0 0 0 1 NOV-FEB/2 ?", "2024-01-01T00:00:00", "2024-11-01T00:00:00");
        nextIs("0 0 0 1 */5 ?", "2024-01-01T00:00:00", "2024-06-01T00:00:00");
        nextIs("0 0 0 1 1 ? 2030/99", "2031-01-01T00:00:00", "2129-01-01T00:00:00");
        nextIs("0 0 0 1 1 ? 1980-1990/3", "1983-06-01T00:00:00", "1986-01-01T00:00:00");
        nextIs("0 0 0 1 1 ? 1980-1990/3", "1989-01-01T00:00:00", "");
        nextIs("5 4 3 2 1 ? 2299", "1970-01-01T00:00:00", "2299-01-02T03:04:05");
        nextIs("30 30 12 * * ?", "2024-01-01T12:30:29", "2024-01-01T12:30:30");
        nextIs("10 20 3,15 * * ?", "2024-01-01T03:20:10", "2024-01-01T15:20:10");
        nextIs("10 20 3,15 * * ?", "2024-01-01T15:20:10", "2024-01-02T03:20:10");
        nextIs("10 20 3,15 * * ?", "2024-01-01T03:19:59", "2024-01-01T03:20:10");
    }

    private static void changesOfTime() {
        JobHouse house = new JobHouse();
        Check.zone(house, 1, "+60 60 M3.5.0/120 M10.5.0/180");
        Check.cron(house, 0, "0 30 2 * * ?");
        long spring = Check.at("2024-03-31T00:00:00");
        Check.is("02:30 is left out", house.next(0, 1, -1, spring - 1),
                Check.at("2024-04-01T00:30:00"));
        Check.is("and so backwards", house.last(0, 1, -1, Check.at("2024-04-01T00:29:59")),
                Check.at("2024-03-30T01:30:00"));
        long autumn = Check.at("2024-10-27T00:00:00");
        Check.is("02:30 comes", house.next(0, 1, -1, autumn), autumn + 1800000);
        Check.is("and again", house.next(0, 1, -1, autumn + 1800000), autumn + 5400000);
        Check.is("not a third time", house.next(0, 1, -1, autumn + 5400000),
                Check.at("2024-10-28T01:30:00"));
        Check.is("the later one", house.last(0, 1, -1, autumn + 86400000), autumn + 5400000);
        Check.is("the earlier one", house.last(0, 1, -1, autumn + 5399999), autumn + 1800000);
        Check.cron(house, 1, "0 30 2 ? 3 1L");
        Check.is("never", house.next(1, 1, -1, 0), -1);
        Check.is("never", house.last(1, 1, -1, Check.END_OF_TIME), -1);
        Check.cron(house, 2, "59 59 2 27 10 ? 2024");
        Check.is("only on that day", house.next(2, 1, -1, 0), autumn + 3599000);
        Check.is("again", house.next(2, 1, -1, autumn + 3599000), autumn + 7199000);
        Check.is("no more", house.next(2, 1, -1, autumn + 7199000), -1);
        Check.is("first seen from behind", house.last(2, 1, -1, autumn + 7198999),
                autumn + 3599000);
        Check.is("none before", house.last(2, 1, -1, autumn + 3598999), -1);
    }

    private static void atTheVeryChange() {
        JobHouse house = new JobHouse();
        Check.zone(house, 1, "+60 60 M3.5.0/120 M10.5.0/180");
        Check.cron(house, 0, "0 0 2 31 3 ?");
        Check.is("it is 03:00 then", house.next(0, 1, -1, Check.at("2024-03-30T00:00:00")),
                Check.at("2025-03-31T00:00:00"));
        Check.is("backwards", house.last(0, 1, -1, Check.at("2024-03-31T01:00:00")),
                Check.at("2023-03-31T00:00:00"));
        Check.cron(house, 1, "0 0 3 * * ?");
        long spring = Check.at("2024-03-31T01:00:00");
        Check.is("03:00 is at the change", house.next(1, 1, -1, spring - 1), spring);
        Check.is("backwards", house.last(1, 1, -1, spring), spring);
        long autumn = Check.at("2024-10-27T01:00:00");
        Check.is("it is 02:00 then", house.next(1, 1, -1, autumn - 1), autumn + 3600000);
        Check.is("backwards", house.last(1, 1, -1, autumn + 3599999),
                Check.at("2024-10-26T01:00:00"));
        Check.cron(house, 2, "0 0 2 * * ?");
        Check.is("02:00 is at the change", house.next(2, 1, -1, autumn - 1), autumn);
        Check.is("and an hour before", house.last(2, 1, -1, autumn - 1), autumn - 3600000);
    }

    /** The search begins within the hour that comes again, behind the time that is sought. */
    private static void timesThatComeAgain() {
        String[] zones = {"+60 60 M3.5.0/120 M10.5.0/180", "-300 60 M3.5.0/120 M10.5.0/180"};
        String[] crons = {"0 15 2 * * ?", "0 15 2 27 10 ? 2024"};
        long[] changes = {Check.at("2024-10-27T01:00:00"), Check.at("2024-10-27T07:00:00")};
        for (int z = 0; z < 2; z++) {
            for (String cron : crons) {
                JobHouse house = new JobHouse();
                Check.zone(house, z, zones[z]);
                Check.cron(house, 5, cron);
                long change = changes[z];
                long quarter = 900000;
                Check.is("again", house.next(5, z, -1, change - 2 * quarter), change + quarter);
                Check.is("at first", house.next(5, z, -1, change - 4 * quarter),
                        change - 3 * quarter);
                Check.is("before", house.last(5, z, -1, change), change - 3 * quarter);
                Check.is("behind", house.last(5, z, -1, change + 2 * quarter), change + quarter);
            }
            JobHouse house = new JobHouse();
            Check.zone(house, z, zones[z]);
            Check.cron(house, 5, "0 45 2 27 10 ? 2024");
            Check.is("before, though later by the clock on the wall",
                    house.last(5, z, -1, changes[z] + 900000), changes[z] - 900000);
        }
    }

    private static void edgesOfTime() {
        JobHouse house = new JobHouse();
        Check.cron(house, 0, "* * * * * ?");
        Check.zone(house, 1, "+840");
        Check.zone(house, 2, "-840");
        Check.is("0 is behind nothing", house.last(0, 0, -1, 0), 0);
        Check.is("behind 0", house.next(0, 0, -1, 0), 1000);
        Check.is("behind 999", house.next(0, 0, -1, 999), 1000);
        Check.is("the last", house.next(0, 0, -1, Check.END_OF_TIME - 1000), 10413791999000L);
        Check.is("none behind it", house.next(0, 0, -1, 10413791999000L), -1);
        Check.is("up to the end", house.last(0, 0, -1, Check.END_OF_TIME), 10413791999000L);
        Check.is("1970 begins later", house.next(0, 2, -1, 0), 840 * 60000L);
        Check.is("1969 does not count", house.last(0, 2, -1, 840 * 60000L - 1), -1);
        Check.is("2300 does not count", house.last(0, 1, -1, Check.END_OF_TIME),
                10413792000000L - 840 * 60000L - 1000);
        Check.is("none in 2300", house.next(0, 1, -1, 10413792000000L - 840 * 60000L - 1000), -1);
        Check.cron(house, 3, "0 0 23 31 12 ? 2299");
        Check.is("its time is none", house.next(3, 2, -1, 0), -1);
        Check.cron(house, 4, "0 0 1 1 1 ? 1970");
        Check.is("its time is none, too", house.last(4, 1, -1, Check.END_OF_TIME), -1);
        Check.is("no cron was told", house.next(15, 0, -1, 0), -1);
    }

    private static void holidays() {
        JobHouse house = new JobHouse();
        Check.cron(house, 0, "0 0 12 25 12 ?");
        Check.zone(house, 1, "-300");
        house.holiday(1, Check.day("2024-12-25"), true);
        long before = Check.at("2024-12-20T00:00:00");
        Check.is("no calendar", house.next(0, 0, -1, before), Check.at("2024-12-25T12:00:00"));
        Check.is("another calendar", house.next(0, 0, 0, before), Check.at("2024-12-25T12:00:00"));
        Check.is("a holiday", house.next(0, 0, 1, before), Check.at("2025-12-25T12:00:00"));
        Check.is("backwards", house.last(0, 0, 1, Check.at("2025-01-01T00:00:00")),
                Check.at("2023-12-25T12:00:00"));
        Check.cron(house, 2, "0 0 22 * * ?");
        house.holiday(2, Check.day("2024-12-24"), true);
        Check.is("the local day counts", house.next(2, 1, 2, Check.at("2024-12-24T12:00:00")),
                Check.at("2024-12-26T03:00:00"));
        house.holiday(1, Check.day("2024-12-25"), false);
        Check.is("not any more", house.next(0, 0, 1, before), Check.at("2024-12-25T12:00:00"));
    }

    private static void randomOnes() {
        Random random = new Random(7);
        for (int i = 0; i < 150; i++) {
            JobHouse house = new JobHouse();
            String zoneText = PlainZone.randomText(random);
            String cronText = RandomCron.text(random);
            if (i % 3 == 0) {
                cronText = nearChanges(random, zoneText);
            }
            PlainZone zone = new PlainZone(zoneText);
            PlainCron cron = new PlainCron(cronText);
            Check.zone(house, 3, zoneText);
            Check.cron(house, 4, cronText);
            Set<Integer> holidays = new HashSet<>();
            for (int k = 0; k < 20; k++) {
                long t = zone.interestingTime(random);
                if (k % 2 == 0) {
                    int day = (int) Math.max(0, Math.min(120529, t / 86400000));
                    holidays.add(day);
                    house.holiday(0, day, true);
                }
                boolean without = random.nextInt(3) == 0;
                Set<Integer> free = without ? Set.of() : holidays;
                String call = "(\"" + cronText + "\", \"" + zoneText + "\", " + free + ", " + t
                        + ")";
                int c = without ? -1 : 0;
                Check.is("next" + call, house.next(4, 3, c, t), cron.next(zone, free, t));
                Check.is("last" + call, house.last(4, 3, c, t), cron.last(zone, free, t));
            }
        }
    }

    /** Fires at the times of the day at which the zone changes, or near to them. */
    private static String nearChanges(Random random, String zoneText) {
        String[] parts = zoneText.split(" +");
        int minutes = parts.length > 1 ? Integer.parseInt(parts[2 + random.nextInt(2)]
                .replaceAll(".*/", "")) : 0;
        int save = parts.length > 1 ? Integer.parseInt(parts[1]) : 0;
        int[] steps = {0, 0, 1, -1, save, -save, random.nextInt(241) - 120};
        int time = Math.floorMod(minutes + steps[random.nextInt(steps.length)], 1440);
        String days = random.nextInt(3) == 0 ? "? * " + (1 + random.nextInt(7)) + "L" : "* * ?";
        return (random.nextBoolean() ? "0 " : "0,59 ") + time % 60 + " " + time / 60 + " " + days;
    }

    private static void ranges() {
        JobHouse house = new JobHouse();
        int[][] wrong = {{-1, 0, 0}, {16, 0, 0}, {0, -1, 0}, {0, 8, 0}, {0, 0, -2}, {0, 0, 4}};
        for (int[] w : wrong) {
            String call = w[0] + ", " + w[1] + ", " + w[2];
            Check.fails("next " + call, Check.RANGE, () -> house.next(w[0], w[1], w[2], 0));
            Check.fails("last " + call, Check.RANGE, () -> house.last(w[0], w[1], w[2], 0));
        }
        long[] times = {-1, Check.END_OF_TIME + 1, Long.MIN_VALUE, Long.MAX_VALUE};
        for (long t : times) {
            Check.fails("next at " + t, Check.RANGE, () -> house.next(0, 0, -1, t));
            Check.fails("last at " + t, Check.RANGE, () -> house.last(0, 0, -1, t));
        }
        Check.is("the ends are fine", house.next(15, 7, 3, Check.END_OF_TIME), -1);
    }
}
