import java.util.Random;

/** Random cron texts, good and spoilt. */
final class RandomCron {
    private static final String[] MONTHS = {"JAN", "FEB", "MAR", "APR", "MAY", "JUN", "JUL", "AUG",
        "SEP", "OCT", "NOV", "DEC"};
    private static final String[] WEEKDAYS = {"SUN", "MON", "TUE", "WED", "THU", "FRI", "SAT"};

    private RandomCron() {
    }

    static String text(Random random) {
        boolean byDay = random.nextBoolean();
        String day = byDay ? day(random) : "?";
        String weekday = byDay ? "?" : weekday(random);
        String text = field(random, 0, 59, null) + blanks(random) + field(random, 0, 59, null)
                + blanks(random) + field(random, 0, 23, null) + blanks(random) + day
                + blanks(random) + field(random, 1, 12, MONTHS) + blanks(random) + weekday;
        if (random.nextInt(3) == 0) {
            text += blanks(random) + years(random);
        }
        return text;
    }

    private static String blanks(Random random) {
        return random.nextInt(12) == 0 ? "  " : " ";
    }

    private static String day(Random random) {
        switch (random.nextInt(8)) {
            case 0: return "L";
            case 1: return "L-" + (1 + random.nextInt(30));
            case 2: return "LW";
            case 3: case 4: return (1 + random.nextInt(31)) + "W";
            default: return field(random, 1, 31, null);
        }
    }

    private static String weekday(Random random) {
        switch (random.nextInt(7)) {
            case 0: return "L";
            case 1: return value(random, 1, 7, WEEKDAYS) + "L";
            case 2: case 3: return value(random, 1, 7, WEEKDAYS) + "#" + (1 + random.nextInt(5));
            default: return field(random, 1, 7, WEEKDAYS);
        }
    }

    private static String field(Random random, int low, int high, String[] names) {
        if (random.nextInt(3) == 0) {
            return "*";
        }
        StringBuilder text = new StringBuilder(item(random, low, high, names));
        while (random.nextInt(3) == 0) {
            text.append(',').append(item(random, low, high, names));
        }
        return text.toString();
    }

    private static String item(Random random, int low, int high, String[] names) {
        String text = random.nextInt(5) == 0 ? "*" : value(random, low, high, names);
        if (!text.equals("*") && random.nextInt(2) == 0) {
            text += "-" + value(random, low, high, names);
        }
        if (random.nextInt(3) == 0) {
            text += "/" + (1 + random.nextInt(random.nextBoolean() ? 99 : 9));
        }
        return text;
    }

    private static String value(Random random, int low, int high, String[] names) {
        int number = low + random.nextInt(high - low + 1);
        return names != null && random.nextBoolean() ? names[number - low] : "" + number;
    }

    private static String years(Random random) {
        int from = 1970 + random.nextInt(330);
        switch (random.nextInt(4)) {
            case 0: return "" + from;
            case 1: return from + "-" + (from + random.nextInt(2300 - from));
            case 2: return from + "/" + (1 + random.nextInt(99));
            default: return "*/" + (1 + random.nextInt(99));
        }
    }

    /** The text with one to three bytes changed, put in, taken out, or cut off at the end. */
    static String spoilt(Random random, String text) {
        StringBuilder bytes = new StringBuilder(text);
        int changes = 1 + random.nextInt(3);
        for (int i = 0; i < changes; i++) {
            int place = random.nextInt(bytes.length() + 1);
            String signs = "0123456789  ,-/*?LW#JANSUNM.+\0x";
            char sign = signs.charAt(random.nextInt(signs.length()));
            int kind = random.nextInt(4);
            if (kind == 0) {
                bytes.insert(place, sign);
            } else if (kind == 1 && place < bytes.length()) {
                bytes.setCharAt(place, sign);
            } else if (kind == 2 && place < bytes.length()) {
                bytes.deleteCharAt(place);
            } else if (kind == 3 && random.nextInt(3) == 0) {
                bytes.setLength(place);
            }
        }
        return bytes.toString();
    }
}
