import java.math.BigInteger;
import java.util.regex.Matcher;
import java.util.regex.Pattern;

/** Where a text leaves a form, in its plainest way: by trying each part of it. */
final class PlainText {
    static final int NOWHERE = Integer.MAX_VALUE;

    private PlainText() {
    }

    /** The length of the longest part that can go on; NOWHERE if the whole text has the form. */
    static int placeOf(String text, Pattern form) {
        if (form.matcher(text).matches()) {
            return NOWHERE;
        }
        int place = text.length();
        while (!canGoOn(text.substring(0, place), form)) {
            place--;
        }
        return place;
    }

    private static boolean canGoOn(String part, Pattern form) {
        Matcher matcher = form.matcher(part);
        return matcher.matches() || matcher.hitEnd();
    }

    /** Whether the digits are a number of the range; behind a 0 in front they do not matter. */
    static boolean isWithin(String digits, int low, int high) {
        BigInteger number = new BigInteger(digits.startsWith("0") ? "0" : digits);
        return number.compareTo(BigInteger.valueOf(low)) >= 0
                && number.compareTo(BigInteger.valueOf(high)) <= 0;
    }
}
