/** CRONS and TEXTS, promise 5: where a text is broken, a test for each sentence. */
final class CronTextEdgesTest {
    private static final String[] MONTHS = {"JAN", "FEB", "MAR", "APR", "MAY", "JUN", "JUL",
        "AUG", "SEP", "OCT", "NOV", "DEC"};
    private static final String[] WEEKDAYS = {"SUN", "MON", "TUE", "WED", "THU", "FRI", "SAT"};

    public static void main(String[] args) {
        Check.sentence("CRONS 0 .. 15", CronTextEdgesTest::numbers);
        Check.sentence("six or seven FIELDS", CronTextEdgesTest::sixOrSeven);
        Check.sentence("blanks (32) between, none else", CronTextEdgesTest::blanks);
        Check.sentence("seconds 0 .. 59", () -> field(0, 0, 59));
        Check.sentence("minutes 0 .. 59", () -> field(1, 0, 59));
        Check.sentence("hours 0 .. 23", () -> field(2, 0, 23));
        Check.sentence("day 1 .. 31", () -> field(3, 1, 31));
        Check.sentence("month 1 .. 12 or JAN FEB MAR APR MAY JUN JUL AUG SEP OCT NOV DEC", () -> {
            field(4, 1, 12);
            names(4, MONTHS, WEEKDAYS);
        });
        Check.sentence("weekday 1 .. 7 or SUN MON TUE WED THU FRI SAT (1 Sunday)", () -> {
            field(5, 1, 7);
            names(5, WEEKDAYS, MONTHS);
        });
        Check.sentence("year 1970 .. 2299 (none: all of these)", () -> field(6, 1970, 2299));
        Check.sentence("FIELD: ITEM {, ITEM}", CronTextEdgesTest::items);
        Check.sentence("ITEM: * [/ N] | V [- V] [/ N]", CronTextEdgesTest::item);
        Check.sentence("V one of these numbers (no 0 in front) or names",
                CronTextEdgesTest::noZeroInFront);
        Check.sentence("N 1 .. 99", CronTextEdgesTest::steps);
        Check.sentence("(years: broken at W)", CronTextEdgesTest::yearsBackwards);
        Check.sentence("Of day and weekday just one is ?, alone", CronTextEdgesTest::oneMark);
        Check.sentence("the other one may, alone, be for day", CronTextEdgesTest::dayAlone);
        Check.sentence("L - N (N 1 .. 30)", CronTextEdgesTest::lastBut);
        Check.sentence("for weekday: L Saturday, V L the last such one of the month",
                CronTextEdgesTest::weekdayAlone);
        Check.sentence("V # N (N 1 .. 5)", CronTextEdgesTest::nth);
        Check.sentence("(L, W, #, - as signs without blanks.)", CronTextEdgesTest::signs);
        Check.sentence("TEXTS are broken at the PLACE (from 0) of the first byte that can't stand"
                + " there", CronTextEdgesTest::firstByte);
        Check.sentence("(its length at the end)", CronTextEdgesTest::lengthAtTheEnd);
        Check.sentence("a number (all digits one behind the other) out of range at its first"
                + " byte", CronTextEdgesTest::outOfRange);
        Check.sentence("behind a 0 that may stand no digit can", CronTextEdgesTest::behindZero);
        Check.sentence("a name (three letters) that is none, likewise",
                CronTextEdgesTest::noName);
        Check.sentence("a second ? at that", CronTextEdgesTest::secondMark);
        Check.sentence("a weekday that is not ? where the day is not, too",
                CronTextEdgesTest::noMark);
        Check.sentence("(if none is there: at the end)", CronTextEdgesTest::noWeekday);
        Check.sentence("Behind six FIELDS and blanks a year must stand",
                CronTextEdgesTest::yearMustStand);
        Check.sentence("behind a year nothing", CronTextEdgesTest::behindAYear);
        Check.sentence("k 0 .. 15. The TAPE is CRON k; likewise.", () -> {
            fromNowOn();
            staysAsItWas();
        });
        Check.finish();
    }

    private static void place(String text, long due) {
        Check.is("\"" + text + "\"", Check.cronPlace(new JobHouse(), text), due);
    }

    private static void good(String... texts) {
        for (String text : texts) {
            place(text, -1);
        }
    }

    /** What stands in front of a field, and what behind it; both are good with it. */
    private static String front(int field) {
        String[] fronts = {"", "* ", "* * ", "* * * ", "* * * * ", "* * * ? * ", "* * * ? * 2 "};
        return fronts[field];
    }

    private static String behind(int field) {
        String[] backs = {" * * * * ?", " * * * ?", " * * ?", " * ?", " ?", " 2024", ""};
        return backs[field];
    }

    private static void in(int field, String item, long due) {
        String text = front(field) + item + behind(field);
        place(text, due < 0 ? -1 : front(field).length() + due);
    }

    private static void numbers() {
        JobHouse house = new JobHouse();
        for (int k = 0; k <= 15; k++) {
            Check.cron(house, k, k + " 0 0 1 1 ?");
        }
        for (int k = 0; k <= 15; k++) {
            Check.is("cron " + k, house.last(k, 0, -1, 86400000), k * 1000);
        }
        int[] wrong = {-1, 16, Integer.MIN_VALUE, Integer.MAX_VALUE};
        for (int k : wrong) {
            Check.failsVoid("cron " + k, Check.RANGE, () -> house.cron(k));
            Check.fails("next " + k, Check.RANGE, () -> house.next(k, 0, -1, 0));
            Check.fails("last " + k, Check.RANGE, () -> house.last(k, 0, -1, 0));
            Check.fails("makeCron " + k, Check.RANGE, () -> house.makeCron(k, 0, -1, 0, 0, 0, 0));
        }
    }

    private static void sixOrSeven() {
        String[] fields = {"*", " *", " *", " *", " *", " ?", " *", " *"};
        String text = "";
        for (int i = 0; i < fields.length; i++) {
            int before = text.length();
            text += fields[i];
            place(text, i < 5 ? text.length() : i < 7 ? -1 : before);
        }
        place("", 0);
    }

    private static void blanks() {
        good("*  *   *    *     *      ?       *", "* * * ? *  2#3", "*   * * L * ?");
        place(" * * * * * ?", 0);
        place("  ", 0);
        for (int b = 0; b < 256; b++) {
            if (b != 32 && b != ',' && b != '/') {
                place("*" + (char) b + "* * * * ?", 1);
                place("* * * * * ?" + (char) b + "2024", 11);
            }
        }
        in(0, "1 ,2", 2);
        in(0, "1, 2", 2);
        in(0, "1 -2", 2);
        in(0, "1- 2", 2);
        in(0, "1 /2", 2);
        in(0, "1/ 2", 2);
        in(0, "* /2", 2);
        in(0, "*/ 2", 2);
    }

    private static void field(int field, int low, int high) {
        good(front(field) + low + behind(field), front(field) + high + behind(field));
        good(front(field) + low + "-" + high + behind(field));
        long[] wrong = {low - 1, high + 1, 10L * high, 4294967296L + low, Long.MAX_VALUE};
        for (long number : wrong) {
            if (number >= 0) {
                in(field, "" + number, 0);
                in(field, low + "," + number, ("" + low).length() + 1);
                in(field, low + "-" + number, ("" + low).length() + 1);
                in(field, number + "-" + high, 0);
                in(field, number + "/2", 0);
            }
        }
        in(field, "-1", 0);
        in(field, "+1", 0);
    }

    private static void names(int field, String[] names, String[] others) {
        for (int i = 0; i < names.length; i++) {
            in(field, names[i], -1);
            in(field, names[i].toLowerCase(), 0);
            in(field, names[0] + "-" + names[i] + "/2," + (i + 1), -1);
            JobHouse house = new JobHouse();
            Check.cron(house, 0, field == 4 ? "0 0 0 1 " + names[i] + " ?"
                    : "0 0 0 ? * " + names[i]);
            long fire = house.next(0, 0, -1, Check.at("2024-06-15T00:00:00"));
            Check.is(names[i], house.local(0, fire, field == 4 ? 4 : 6), i + 1);
        }
        for (String other : others) {
            in(field, other, 0);
        }
        in(0, names[0], 0);
        in(1, names[0], 0);
        in(2, names[0], 0);
        in(3, names[0], 0);
        in(6, names[0], 0);
    }

    private static void items() {
        for (int field = 0; field < 7; field++) {
            String v = field == 6 ? "1999" : "5";
            in(field, v + "," + v, -1);
            in(field, "*," + v + ",*/3," + v + "-" + v, -1);
            in(field, ",", 0);
            in(field, "," + v, 0);
            in(field, v + ",", v.length() + 1);
            in(field, v + ",," + v, v.length() + 1);
            in(field, "*,", 2);
            in(field, v + ";" + v, v.length());
        }
        good("0" + ",59".repeat(129) + " * * * * ?");
    }

    private static void item() {
        for (int field = 0; field < 7; field++) {
            String v = field == 6 ? "1999" : "5";
            int one = v.length();
            good(front(field) + "*" + behind(field), front(field) + "*/7" + behind(field));
            good(front(field) + v + behind(field), front(field) + v + "/7" + behind(field));
            good(front(field) + v + "-" + v + "/7" + behind(field));
            in(field, "**", 1);
            in(field, "*" + v, 1);
            in(field, v + "*", one);
            in(field, "*-" + v, 1);
            in(field, v + "-*", one + 1);
            in(field, v + "-", one + 1);
            in(field, "-" + v, 0);
            in(field, v + "-" + v + "-" + v, 2 * one + 1);
            in(field, v + "/2/2", one + 2);
            in(field, v + "/2-" + v, one + 2);
            in(field, v + "/*", one + 1);
            in(field, "/2", 0);
            in(field, "*/", 2);
        }
    }

    private static void noZeroInFront() {
        for (int field = 0; field < 3; field++) {
            in(field, "0", -1);
            in(field, "05", 1);
            in(field, "1-05", 3);
            in(field, "1,05", 3);
        }
        for (int field = 3; field < 7; field++) {
            String v = field == 6 ? "1999" : "5";
            in(field, "0" + v, 0);
            in(field, v + ",0" + v, v.length() + 1);
            in(field, v + "-0" + v, v.length() + 1);
        }
    }

    private static void steps() {
        for (int field = 0; field < 7; field++) {
            for (String v : new String[] {"*", field == 6 ? "1999" : "5",
                field == 6 ? "1999-2001" : "2-5"}) {
                in(field, v + "/1", -1);
                in(field, v + "/99", -1);
                for (String n : new String[] {"0", "100", "00", "01", "4294967297", "", "x"}) {
                    in(field, v + "/" + n, v.length() + 1);
                }
            }
        }
    }

    private static void yearsBackwards() {
        in(6, "2000-1999", 5);
        in(6, "2299-1970", 5);
        in(6, "2000-1999/2", 5);
        in(6, "1970,2000-1999", 10);
        in(6, "2000-2000", -1);
        in(6, "1970-2299", -1);
        // A year out of range is broken there, too, and before it the first one is.
        in(6, "2000-1969", 5);
        in(6, "2300-1999", 0);
        for (int field = 0; field < 6; field++) {
            in(field, "5-4", -1);
        }
    }

    private static void oneMark() {
        good("* * * ? * *", "* * * * * ?", "* * * ? * L", "* * * L * ?", "* * * ? * * 1999",
                "* * * * * ? 1999");
        place("* * * ?,1 * 1", 7);
        place("* * * 1,? * ?", 8);
        place("* * * ?/2 * 1", 7);
        place("* * * ?-2 * 1", 7);
        place("* * * ?? * 1", 7);
        place("* * * ?L * 1", 7);
        place("* * * * * ?,1", 11);
        place("* * * * * ?/1", 11);
        place("* * * * * ??", 11);
        place("* * * ? * 1,?", 12);
        for (int field : new int[] {0, 1, 2, 4, 6}) {
            in(field, "?", 0);
            in(field, "*,?", 2);
        }
    }

    private static void dayAlone() {
        good("* * * L * ?", "* * * LW * ?", "* * * L-3 * ?", "* * * 1W * ?", "* * * 31W * ?");
        in(3, "L,1", 1);
        in(3, "LW,1", 2);
        in(3, "L-3,1", 3);
        in(3, "1W,1", 2);
        in(3, "1,L", 2);
        in(3, "1,LW", 2);
        in(3, "1,2W", 3);
        in(3, "1-2W", 3);
        in(3, "1/2W", 3);
        in(3, "*W", 1);
        in(3, "W", 0);
        in(3, "L/2", 1);
        in(3, "LW/2", 2);
        in(3, "1W/2", 2);
        in(3, "1W-2", 2);
        in(3, "LL", 1);
        in(3, "LWW", 2);
        in(3, "WL", 0);
        in(3, "1L", 1);
        in(3, "1#1", 1);
        in(3, "0W", 0);
        in(3, "32W", 0);
        for (int field : new int[] {0, 1, 2, 4, 6}) {
            String v = field == 6 ? "1999" : "5";
            in(field, "L", 0);
            in(field, "LW", 0);
            in(field, v + "W", v.length());
            in(field, v + "L", v.length());
            in(field, v + "#1", v.length());
        }
    }

    private static void lastBut() {
        in(3, "L-1", -1);
        in(3, "L-30", -1);
        in(3, "L-0", 2);
        in(3, "L-31", 2);
        in(3, "L-300", 2);
        in(3, "L-4294967297", 2);
        in(3, "L-01", 2);
        in(3, "L-", 2);
        in(3, "L-x", 2);
        in(3, "L-W", 2);
        in(3, "L-1W", 3);
        in(3, "L-1-1", 3);
        in(3, "L-1/1", 3);
    }

    private static void weekdayAlone() {
        good("* * * ? * L", "* * * ? * 1L", "* * * ? * 7L", "* * * ? * SUNL", "* * * ? * SATL");
        in(5, "L,1", 1);
        in(5, "L/2", 1);
        in(5, "L-1", 1);
        in(5, "LW", 1);
        in(5, "LL", 1);
        in(5, "1,L", 2);
        in(5, "1L,1", 2);
        in(5, "1L/2", 2);
        in(5, "1L-2", 2);
        in(5, "1LL", 2);
        in(5, "1,2L", 3);
        in(5, "1-2L", 3);
        in(5, "*L", 1);
        in(5, "0L", 0);
        in(5, "8L", 0);
        in(5, "1W", 1);
    }

    private static void nth() {
        in(5, "1#1", -1);
        in(5, "7#5", -1);
        in(5, "MON#3", -1);
        in(5, "1#0", 2);
        in(5, "1#6", 2);
        in(5, "1#10", 2);
        in(5, "1#01", 2);
        in(5, "1#4294967297", 2);
        in(5, "1#", 2);
        in(5, "1#L", 2);
        in(5, "1#MON", 2);
        in(5, "#1", 0);
        in(5, "*#1", 1);
        in(5, "0#1", 0);
        in(5, "8#1", 0);
        in(5, "1#1,2", 3);
        in(5, "1,2#1", 3);
        in(5, "1#1#1", 3);
        in(5, "1#1L", 3);
        in(5, "1#1/2", 3);
    }

    private static void signs() {
        place("* * * L -3 * ?", 8);
        place("* * * L- 3 * ?", 8);
        place("* * * L W * ?", 8);
        place("* * * 5 W * ?", 8);
        place("* * * ? * 6 L", 12);
        place("* * * ? * 6 #3", 12);
        place("* * * ? * 6# 3", 12);
        place("* * * ? * MON L", 14);
    }

    private static void firstByte() {
        // Only the first place counts, whatever comes behind it.
        place("x y z", 0);
        place("* 60 24 32 13 8 1969", 2);
        place("* * 24 x x x", 4);
        place("* * * 32 FOO ? 1969", 6);
        place("* * * * FOO * 1969", 8);
        place("* * * * * * 1969 ", 10);
        place("* * * * * ? 1969 ", 12);
        // A byte of each kind that can stand nowhere, at each place of a good text.
        String text = "1 2 3 L 5 ? *";
        for (int i = 0; i < text.length(); i++) {
            for (char bad : new char[] {0, 9, 10, 31, 33, '.', ':', 'l', '_', 127, 128, 160, 255}) {
                place(text.substring(0, i) + bad + text.substring(i + 1), i);
            }
        }
    }

    private static void lengthAtTheEnd() {
        String[] texts = {"* *,* * LW * ?", "1 2/3 4-5 ? 6 7", "*/1 * * L-1 * ?",
            "* * * ? JAN MON#1"};
        for (String text : texts) {
            for (int length = 0; length < text.length(); length++) {
                char last = length == 0 ? ' ' : text.charAt(length - 1);
                // A part of a name is broken at its beginning; six fields are good without more.
                if (!"JAMO".contains("" + last)) {
                    String part = text.substring(0, length);
                    place(part, part.endsWith("MON") ? -1 : length);
                }
            }
        }
    }

    private static void outOfRange() {
        in(0, "60", 0);
        in(0, "600", 0);
        in(0, "59999", 0);
        in(0, "4294967296", 0);
        in(0, "4294967301", 0);
        in(0, "18446744073709551617", 0);
        in(0, "1" + "0".repeat(300), 0);
        in(0, "1,60", 2);
        in(0, "1-60", 2);
        in(0, "1/100", 2);
        in(0, "60x", 0);
        in(2, "24", 0);
        in(2, "239", 0);
        in(3, "0", 0);
        in(3, "319", 0);
        in(3, "L-310", 2);
        in(5, "1#51", 2);
        in(6, "19700", 0);
        in(6, "197", 0);
        in(6, "0", 0);
        in(6, "22990", 0);
        in(6, "4294969296", 0);
    }

    private static void behindZero() {
        in(0, "00", 1);
        in(0, "01", 1);
        in(0, "0059", 1);
        in(1, "09", 1);
        in(2, "023", 1);
        in(0, "0-00", 3);
        in(0, "0,00", 3);
        in(0, "0-0,0/1", -1);
        // Where no 0 may stand it is the 0 itself.
        in(3, "01", 0);
        in(4, "01", 0);
        in(5, "01", 0);
        in(6, "01970", 0);
        in(0, "0/01", 2);
        in(5, "1#01", 2);
        in(3, "L-01", 2);
    }

    private static void noName() {
        for (String none : new String[] {"FOO", "JAX", "XAN", "JXN", "jan", "Jan", "JAn", "ABC"}) {
            in(4, none, 0);
            in(4, "JAN," + none, 4);
            in(4, "JAN-" + none, 4);
            in(5, none, 0);
            in(5, "MON," + none, 4);
            in(5, "MON-" + none, 4);
        }
        in(4, "JA", 0);
        in(4, "J", 0);
        place("* * * * J", 8);
        place("* * * * JA", 8);
        place("* * * ? * M", 10);
        place("* * * ? * MO", 10);
        in(4, "JANX", 3);
        in(4, "JANFEB", 3);
        in(5, "MONX", 3);
        in(5, "MONTUE", 3);
        in(4, "1JAN", 1);
        in(4, "JAN1", 3);
    }

    private static void secondMark() {
        place("* * * ? * ?", 10);
        place("* * * ? 1,2,3 ?", 14);
        place("* * * ? * ? 2024", 10);
        place("* * * ? *    ?x", 13);
    }

    private static void noMark() {
        place("* * * * * *", 10);
        place("* * * 1 * 2", 10);
        place("* * * L * L", 10);
        place("* * * 1W * MON", 11);
        place("* * * 1 * 99", 10);
        place("* * * 1 * FOO", 10);
        place("* * * LW *   1#2", 13);
        place("* * * * * * 2024", 10);
    }

    private static void noWeekday() {
        place("* * * * *", 9);
        place("* * * * * ", 10);
        place("* * * * *    ", 13);
        place("* * * ? *", 9);
        place("* * * ? * ", 10);
        place("* * * 1 JAN", 11);
        place("* * * 1 JAN ", 12);
    }

    private static void yearMustStand() {
        place("* * * * * ? ", 12);
        place("* * * * * ?    ", 15);
        place("* * * ? * 2 ", 12);
        place("* * * * * ? x", 12);
        place("* * * * * ? ?", 12);
        place("* * * * * ? ,", 12);
        place("* * * * * ?    x", 15);
        good("* * * * * ?", "* * * ? * 2", "* * * * * ? *", "* * * ? * 2    1999");
    }

    private static void behindAYear() {
        place("* * * * * ? 1999 ", 16);
        place("* * * * * ? 1999  ", 16);
        place("* * * * * ? 1999 1", 16);
        place("* * * * * ? 1999x", 16);
        place("* * * * * ? 1999?", 16);
        place("* * * * * ? 1999\0", 16);
        place("* * * * * ? * ", 13);
        place("* * * * * ? */2 *", 15);
    }

    /** Each text in the place of one that had more: nothing of that one is left. */
    private static void fromNowOn() {
        JobHouse house = new JobHouse();
        String[] texts = {"* * * * * ?", "5 5 5 5 5 ? 2005", "5 5 5 ? 5 5 2005",
            "5 5 5 LW 5 ? 2005", "5 5 5 ? 5 2#2 2005", "5 5 5 L-5 5 ? 2005", "5 5 5 5W 5 ? 2005",
            "5 5 5 ? 5 5L 2005", "5 5 5 L 5 ? 2005", "5 5 5 ? 5 L 2005", "5 5 5 5 5 ?"};
        int[] dates = {0, 5, 5, 31, 9, 26, 5, 26, 31, 7, 5};
        for (int i = 0; i < texts.length; i++) {
            Check.cron(house, 15, texts[i]);
            Check.is(texts[i], house.next(15, 0, -1, Check.at("2005-01-01T00:00:00")), i == 0
                    ? Check.at("2005-01-01T00:00:01")
                    : Check.at(String.format("2005-05-%02dT05:05:05", dates[i])));
        }
        Check.is("all years again", house.next(15, 0, -1, Check.at("2005-06-01T00:00:00")),
                Check.at("2006-05-05T05:05:05"));
    }

    private static void staysAsItWas() {
        // Broken at the beginning, in each field, and behind the end.
        String[] texts = {"", "60", "1 60", "1 1 24", "1 1 1 32", "1 1 1 L 13", "1 1 1 L 2 1",
            "1 1 1 ? 2 8", "1 1 1 ? 2 3#6", "1 1 1 5W 2 ? 1969", "1 1 1 5W 2 ? 1999 "};
        int[] places = {0, 0, 2, 4, 6, 8, 10, 10, 12, 13, 17};
        for (int i = 0; i < texts.length; i++) {
            JobHouse house = new JobHouse();
            Check.cron(house, 3, "0 0 12 ? * TUE#1");
            Check.feed(house, texts[i]);
            Check.failsVoid("\"" + texts[i] + "\"", Check.BROKEN, () -> house.cron(3));
            Check.is("its place", house.count(5), places[i]);
            Check.is("as it was", house.next(3, 0, -1, Check.at("2024-02-01T00:00:00")),
                    Check.at("2024-02-06T12:00:00"));
            Check.is("all years", house.next(3, 0, -1, Check.at("2299-11-08T00:00:00")),
                    Check.at("2299-12-05T12:00:00"));
        }
    }
}
