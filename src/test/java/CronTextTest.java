import java.util.Random;

/** Promise 5: cron, which texts are broken and where. */
final class CronTextTest {
    public static void main(String[] args) {
        good();
        broken();
        cutShort();
        ranges();
        brokenOnesChangeNothing();
        randomTexts();
        Check.finish();
    }

    private static void good() {
        String[] texts = {
            "* * * * * ?", "* * * ? * *", "0 0 0 1 1 ?", "59 59 23 31 12 ?", "0 0 0 ? 1 7 2299",
            "0   0 0  *    * ?    1970", "0,1,2 0-5 5-0 */99 */1 ? */7", "1/99 * * * * ?",
            "* * * * JAN-DEC ?", "* * * * DEC-JAN/2,FEB,3-MAY ?", "* * * ? * SUN,MON-5,SAT/3",
            "* * * ? * TUE#5", "* * * ? * 7#1", "* * * ? * FRIL", "* * * ? * 1L", "* * * ? * L",
            "* * * L * ?", "* * * L-1 * ?", "* * * L-30 * ?", "* * * LW * ?", "* * * 1W * ?",
            "* * * 31W * ?", "* * * ? * L 2024", "* * * ? * 2#3 2024-2024/9", "*,* *,5 */2,* * * ?",
            "* * * * * ? 1970-2299/99,2000"};
        for (String text : texts) {
            Check.is(text, Check.cronPlace(new JobHouse(), text), -1);
        }
        String longest = "0" + ",59".repeat(129) + " * * * * ?";
        Check.is("398 bytes", Check.cronPlace(new JobHouse(), longest), -1);
    }

    private static void broken() {
        Object[][] rows = {
            {"", 0}, {" ", 0}, {" * * * * * ?", 0}, {"? * * * * ?", 0}, {"L * * * * ?", 0},
            {"a * * * * ?", 0}, {"- * * * * ?", 0}, {", * * * * ?", 0}, {"/5 * * * * ?", 0},
            {"60 * * * * ?", 0}, {"100 * * * * ?", 0}, {"4294967296 * * * * ?", 0},
            {"18446744073709551617 * * * * ?", 0}, {"00 * * * * ?", 1}, {"05 * * * * ?", 1},
            {"060 * * * * ?", 1}, {"1-60 * * * * ?", 2}, {"1-00 * * * * ?", 3},
            {"1- * * * * ?", 2}, {"1-* * * * * ?", 2}, {"1-2-3 * * * * ?", 3},
            {"1,, * * * * ?", 2}, {"1, * * * * ?", 2}, {"1,60 * * * * ?", 2}, {"1/ * * * * ?", 2},
            {"1/0 * * * * ?", 2}, {"1/00 * * * * ?", 2}, {"1/01 * * * * ?", 2},
            {"1/100 * * * * ?", 2}, {"1/2/3 * * * * ?", 3}, {"1/2-3 * * * * ?", 3},
            {"*/100 * * * * ?", 2}, {"*-5 * * * * ?", 1}, {"** * * * * ?", 1}, {"*5 * * * * ?", 1},
            {"5* * * * * ?", 1}, {"5W * * * * ?", 1}, {"5L * * * * ?", 1}, {"5#1 * * * * ?", 1},
            {"5\t* * * * ?", 1}, {"SUN * * * * ?", 0}, {"* 60 * * * ?", 2}, {"* * 24 * * ?", 4},
            {"* * * 0 * ?", 6}, {"* * * 01 * ?", 6}, {"* * * 32 * ?", 6}, {"* * * 1W1 * ?", 8},
            {"* * * 1,2W * ?", 9}, {"* * * 1-2W * ?", 9}, {"* * * 1/2W * ?", 9},
            {"* * * *W * ?", 7}, {"* * * W * ?", 6}, {"* * * 1W,2 * ?", 8}, {"* * * 1WL * ?", 8},
            {"* * * 32W * ?", 6}, {"* * * L-0 * ?", 8}, {"* * * L-31 * ?", 8},
            {"* * * L- * ?", 8}, {"* * * L-1W * ?", 9}, {"* * * L-1,2 * ?", 9},
            {"* * * LL * ?", 7}, {"* * * LW, * ?", 8}, {"* * * L/2 * ?", 7}, {"* * * L,1 * ?", 7},
            {"* * * 1,L * ?", 8}, {"* * * 1L * ?", 7}, {"* * * 1#1 * ?", 7}, {"* * * ?,1 * ?", 7},
            {"* * * 1,? * ?", 8}, {"* * * ?? * ?", 7}, {"* * * ?/2 * 1", 7}, {"* * * MON * ?", 6},
            {"* * * * 0 ?", 8}, {"* * * * 13 ?", 8}, {"* * * * JA ?", 8}, {"* * * * JAX ?", 8},
            {"* * * * jan ?", 8}, {"* * * * Jan ?", 8}, {"* * * * MON ?", 8}, {"* * * * J", 8},
            {"* * * * JANU ?", 11}, {"* * * * JANFEB ?", 11}, {"* * * * JAN-FOO ?", 12},
            {"* * * * JAN,FE", 12}, {"* * * * 1JAN ?", 9}, {"* * * * ? ?", 8}, {"* * * * L ?", 8},
            {"* * * * * *", 10}, {"* * * 1 * MON", 10}, {"* * * 1 * x", 10}, {"* * * L * L", 10},
            {"* * * 1W * 2#3", 11}, {"* * * ? * ?", 10}, {"* * * ? * 0", 10}, {"* * * ? * 8", 10},
            {"* * * ? * 01", 10}, {"* * * ? * MO", 10}, {"* * * ? * JAN", 10},
            {"* * * ? * 1,?", 12}, {"* * * ? * LW", 11}, {"* * * ? * L-1", 11},
            {"* * * ? * L,1", 11}, {"* * * ? * 1,L", 12}, {"* * * ? * 1,2L", 13},
            {"* * * ? * 1-2L", 13}, {"* * * ? * 1L,2", 12}, {"* * * ? * 1L-2", 12},
            {"* * * ? * 1LL", 12}, {"* * * ? * 1W", 11}, {"* * * ? * 1#0", 12},
            {"* * * ? * 1#6", 12}, {"* * * ? * 1#12", 12}, {"* * * ? * 1#", 12},
            {"* * * ? * 1#2#3", 13}, {"* * * ? * 1#2,3", 13}, {"* * * ? * 1,2#3", 13},
            {"* * * ? * MONX", 13}, {"* * * ? * *L", 11}, {"* * * ? * *#1", 11},
            {"* * * * * ??", 11}, {"* * * * * ?,1", 11}, {"* * * * * ? ", 12},
            {"* * * * * ?   ", 14}, {"* * * * * ? x", 12}, {"* * * * * ? ?", 12},
            {"* * * * * ? 0", 12}, {"* * * * * ? 01970", 12}, {"* * * * * ? 1969", 12},
            {"* * * * * ? 2300", 12}, {"* * * * * ? 19700", 12}, {"* * * * * ? 2000-1999", 17},
            {"* * * * * ? 2000-1969", 17}, {"* * * * * ? 2000-1999/x", 17},
            {"* * * * * ? 2000 ", 16}, {"* * * * * ? * *", 13}, {"* * * * * ? *\0", 13},
            {"* * * * * ?\0", 11}, {"* * * * *", 9}, {"* * * * * ", 10}, {"* * * ? *", 9},
            {"* * * ? * ", 10}, {"\u00aa * * * * ?", 0}, {"*\u00a0* * * * ?", 1}};
        JobHouse house = new JobHouse();
        int calls = 0;
        for (Object[] row : rows) {
            // Each row takes up to nine calls of the 512 that an object is good for.
            if (calls % 50 == 0) {
                house = new JobHouse();
            }
            calls++;
            String text = (String) row[0];
            Check.is(text, Check.cronPlace(house, text), (Integer) row[1]);
        }
    }

    /** Of a text with no number and no name, each part that is too short is broken at its end. */
    private static void cutShort() {
        JobHouse house = new JobHouse();
        String text = "* *,* * L * ?";
        for (int length = 0; length < text.length(); length++) {
            String part = text.substring(0, length);
            Check.is(part, Check.cronPlace(house, part), length);
        }
    }

    private static void ranges() {
        JobHouse house = new JobHouse();
        Check.feed(house, "* * x");
        Check.failsVoid("cron -1", Check.RANGE, () -> house.cron(-1));
        Check.failsVoid("cron 16", Check.RANGE, () -> house.cron(16));
        Check.is("the tape stays", house.count(4), 5);
        Check.is("no place is told", house.count(5), -1);
        Check.failsVoid("cron 15", Check.BROKEN, () -> house.cron(15));
        Check.is("the tape is empty", house.count(4), 0);
        Check.is("the place is told", house.count(5), 4);
        Check.failsVoid("cron 16", Check.RANGE, () -> house.cron(16));
        Check.is("the place stays", house.count(5), 4);
        Check.zone(house, 0, "+0");
        Check.is("a zone tells none", house.count(5), -1);
    }

    private static void brokenOnesChangeNothing() {
        JobHouse house = new JobHouse();
        Check.cron(house, 3, "0 0 12 * * ?");
        Check.cron(house, 4, "0 0 13 * * ?");
        Check.is("noon", house.next(3, 0, -1, 0), 43200000);
        Check.feed(house, "0 0 11 L * ? 2020x");
        Check.failsVoid("broken at its end", Check.BROKEN, () -> house.cron(3));
        Check.is("as it was", house.next(3, 0, -1, 0), 43200000);
        Check.is("another one", house.next(4, 0, -1, 0), 46800000);
        Check.cron(house, 3, "0 0 10 * * ?");
        Check.is("told anew", house.next(3, 0, -1, 0), 36000000);
    }

    private static void randomTexts() {
        Random random = new Random(5);
        for (int i = 0; i < 40000; i++) {
            String text = RandomCron.text(random);
            if (random.nextInt(5) != 0) {
                text = RandomCron.spoilt(random, text);
            }
            Check.is("\"" + text + "\"", Check.cronPlace(new JobHouse(), text),
                    PlainCron.placeOf(text));
        }
    }
}
