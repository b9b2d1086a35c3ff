import java.time.LocalDate;
import java.time.LocalDateTime;
import java.time.ZoneOffset;
import java.util.function.LongSupplier;

/** What the tests share: comparing, texts for the tape, and times told as dates. */
final class Check {
    static final Class<IllegalArgumentException> RANGE = IllegalArgumentException.class;
    static final Class<IllegalStateException> CLOSED = IllegalStateException.class;
    static final Class<IndexOutOfBoundsException> FULL = IndexOutOfBoundsException.class;
    static final Class<UnsupportedOperationException> BROKEN = UnsupportedOperationException.class;
    static final Class<java.util.NoSuchElementException> MISSING =
            java.util.NoSuchElementException.class;
    static final long END_OF_TIME = 10413791999999L;

    private static int seen = 0;
    private static int wrong = 0;

    private Check() {
    }

    static void is(String what, long got, long due) {
        seen++;
        if (got != due) {
            wrong++;
            System.out.println(what + ": answered " + got + ", due is " + due);
        }
    }

    static void fails(String what, Class<? extends RuntimeException> due, LongSupplier call) {
        seen++;
        String got;
        try {
            got = "answered " + call.getAsLong();
        } catch (RuntimeException e) {
            if (e.getClass() == due) {
                return;
            }
            got = "threw " + e.getClass().getName();
        }
        wrong++;
        System.out.println(what + ": " + got + ", due is " + due.getName());
    }

    static void failsVoid(String what, Class<? extends RuntimeException> due, Runnable call) {
        fails(what, due, () -> {
            call.run();
            return 0;
        });
    }

    /** Ends the test: exit code 1 if something was wrong, or nothing was looked at. */
    static void finish() {
        System.out.println(seen + " answers looked at, " + wrong + " wrong");
        if (wrong != 0 || seen == 0) {
            System.exit(1);
        }
    }

    static void feed(JobHouse house, String text) {
        byte[] bytes = text.getBytes(java.nio.charset.StandardCharsets.ISO_8859_1);
        byte[] whole = java.util.Arrays.copyOf(bytes, (bytes.length + 19) / 20 * 20);
        int before = (int) house.count(4);
        for (int i = 0; i < whole.length; i += 20) {
            house.feed(word(whole, i), word(whole, i + 4), word(whole, i + 8),
                    word(whole, i + 12), word(whole, i + 16));
        }
        house.end(before + bytes.length);
    }

    private static int word(byte[] b, int i) {
        return java.nio.ByteBuffer.wrap(b, i, 4).getInt();
    }

    static void zone(JobHouse house, int z, String text) {
        feed(house, text);
        house.zone(z);
    }

    static void cron(JobHouse house, int k, String text) {
        feed(house, text);
        house.cron(k);
    }

    /** The place at which a cron text is broken, -1 if it is not. */
    static long cronPlace(JobHouse house, String text) {
        feed(house, text);
        try {
            house.cron(0);
        } catch (UnsupportedOperationException e) {
            return house.count(5);
        }
        return house.count(5) == -1 ? -1 : -2;
    }

    static long zonePlace(JobHouse house, String text) {
        feed(house, text);
        try {
            house.zone(0);
        } catch (UnsupportedOperationException e) {
            return house.count(5);
        }
        return house.count(5) == -1 ? -1 : -2;
    }

    /** A time told like 2024-03-31T01:00:00 (universal time). */
    static long at(String text) {
        return LocalDateTime.parse(text).toEpochSecond(ZoneOffset.UTC) * 1000;
    }

    static int day(String text) {
        return (int) LocalDate.parse(text).toEpochDay();
    }
}
