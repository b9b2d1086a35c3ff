import java.time.LocalDate;
import java.time.LocalDateTime;
import java.time.ZoneOffset;
import java.util.function.LongSupplier;

/** What the tests share: comparing, texts for the tape, and times told as dates. */
final class Check {
    static final Class<IllegalArgumentException> RANGE = IllegalArgumentException.class;
    static final Class<IllegalStateException> CLOSED = IllegalStateException.class;
    static final Class<IndexOutOfBoundsException> FULL = IndexOutOfBoundsException.class;
    static final Class<UnsupportedOperationException> BROKEN = UnsupportedOperationException.class;
    static final Class<java.util.NoSuchElementException> MISSING =
            java.util.NoSuchElementException.class;
    static final long END_OF_TIME = 10413791999999L;

    private static int seen = 0;
    private static int wrong = 0;
    /** The sentence that is tested now, as it is told in front of a wrong answer. */
    private static String sentence = "";

    private Check() {
    }

    /** One sentence of the document, in its own words, with the test of its own that it has. */
    static void sentence(String words, Runnable test) {
        int before = seen;
        sentence = "[" + words + "] ";
        try {
            test.run();
        } catch (RuntimeException e) {
            tellWrong("a call", "threw " + e + " in " + e.getStackTrace()[0], "an answer");
        }
        if (seen == before) {
            tellWrong("the test", "looked at nothing", "an answer");
        }
        sentence = "";
    }

    private static void tellWrong(String what, String got, String due) {
        wrong++;
        System.out.println(sentence + what + ": " + got + ", due is " + due);
    }

    static void is(String what, long got, long due) {
        seen++;
        if (got != due) {
            tellWrong(what, "answered " + got, "" + due);
        }
    }

    static void fails(String what, Class<? extends RuntimeException> due, LongSupplier call) {
        seen++;
        String got;
        try {
            got = "answered " + call.getAsLong();
        } catch (RuntimeException e) {
            if (e.getClass() == due) {
                return;
            }
            got = "threw " + e.getClass().getName();
        }
        tellWrong(what, got, due.getName());
    }

    static void failsVoid(String what, Class<? extends RuntimeException> due, Runnable call) {
        fails(what, due, () -> {
            call.run();
            return 0;
        });
    }

    /** Ends the test: exit code 1 if something was wrong, or nothing was looked at. */
    static void finish() {
        System.out.println(seen + " answers looked at, " + wrong + " wrong");
        if (wrong != 0 || seen == 0) {
            System.exit(1);
        }
    }

    static void feed(JobHouse house, String text) {
        byte[] bytes = text.getBytes(java.nio.charset.StandardCharsets.ISO_8859_1);
        byte[] whole = java.util.Arrays.copyOf(bytes, (bytes.length + 19) / 20 * 20);
        int before = (int) house.count(4);
        for (int i = 0; i < whole.length; i += 20) {
            house.feed(word(whole, i), word(whole, i + 4), word(whole, i + 8),
                    word(whole, i + 12), word(whole, i + 16));
        }
        house.end(before + bytes.length);
    }

    private static int word(byte[] b, int i) {
        return java.nio.ByteBuffer.wrap(b, i, 4).getInt();
    }

    static void zone(JobHouse house, int z, String text) {
        feed(house, text);
        house.zone(z);
    }

    static void cron(JobHouse house, int k, String text) {
        feed(house, text);
        house.cron(k);
    }

    /** The place at which a cron text is broken, -1 if it is not. */
    static long cronPlace(JobHouse house, String text) {
        feed(house, text);
        try {
            house.cron(0);
        } catch (UnsupportedOperationException e) {
            return house.count(5);
        }
        return house.count(5) == -1 ? -1 : -2;
    }

    static long zonePlace(JobHouse house, String text) {
        feed(house, text);
        try {
            house.zone(0);
        } catch (UnsupportedOperationException e) {
            return house.count(5);
        }
        return house.count(5) == -1 ? -1 : -2;
    }

    /** A time told like 2024-03-31T01:00:00 (universal time). */
    static long at(String text) {
        return LocalDateTime.parse(text).toEpochSecond(ZoneOffset.UTC) * 1000;
    }

    /** The fires of a cron (universal time) behind a time, one after the other; "none": no more. */
    static void fires(String text, String from, String... due) {
        JobHouse house = new JobHouse();
        cron(house, 9, text);
        long before = at(from);
        long latest = house.last(9, 0, -1, before);
        for (String fire : due) {
            long wanted = fire.equals("none") ? -1 : at(fire);
            is(text + " behind " + before, house.next(9, 0, -1, before), wanted);
            long then = wanted < 0 ? END_OF_TIME : wanted;
            is(text + " up to " + then, house.last(9, 0, -1, then), wanted < 0 ? latest : wanted);
            is(text + " before " + then, house.last(9, 0, -1, then - 1), latest);
            before = then;
            latest = wanted < 0 ? latest : wanted;
        }
    }

    static int day(String text) {
        return (int) LocalDate.parse(text).toEpochDay();
    }
}
