import java.io.ByteArrayOutputStream;
import java.io.IOException;
import java.io.PrintStream;
import java.nio.file.Files;
import java.nio.file.Path;
import java.util.ArrayList;
import java.util.List;

/** What README.md shows is what this test runs, and prints what README.md says. */
final class ReadmeTest {
    public static void main(String[] args) throws IOException {
        List<String> readme = Files.readAllLines(Path.of("README.md"));
        lines(block(readme, "```java"), Files.readAllLines(Path.of(
                "src/test/java/ReadmeTest.java")));
        PrintStream before = System.out;
        ByteArrayOutputStream printed = new ByteArrayOutputStream();
        System.setOut(new PrintStream(printed));
        example();
        System.setOut(before);
        List<String> due = block(readme, "```text");
        List<String> got = printed.toString().lines().toList();
        Check.is("the example prints " + got, got.equals(due) ? 1 : 0, 1);
        calls(readme);
        Check.finish();
    }

    /** The lines of all blocks that begin so. */
    private static List<String> block(List<String> lines, String mark) {
        List<String> found = new ArrayList<>();
        boolean inside = false;
        for (String line : lines) {
            if (inside && !line.equals("```")) {
                found.add(line);
            }
            inside = inside ? !line.equals("```") : line.equals(mark);
        }
        Check.is("there is a block " + mark, found.isEmpty() ? 0 : 1, 1);
        return found;
    }

    private static void lines(List<String> shown, List<String> run) {
        int at = 0;
        for (String line : shown) {
            int from = at;
            while (from < run.size() && !run.get(from).trim().equals(line.trim())) {
                from++;
            }
            Check.is("is run: " + line, from < run.size() ? 1 : 0, 1);
            at = from < run.size() ? from + 1 : at;
        }
    }

    private static void calls(List<String> readme) {
        String text = String.join("\n", readme);
        for (java.lang.reflect.Method method : JobHouse.class.getDeclaredMethods()) {
            if (java.lang.reflect.Modifier.isPublic(method.getModifiers())) {
                Check.is("tells of " + method.getName(),
                        text.contains("`" + method.getName() + "(") ? 1 : 0, 1);
            }
        }
        Check.is("tells how to run the tests", text.contains("`.ci/run`") ? 1 : 0, 1);
    }

    /** Puts a text on the tape, 20 bytes a call, and cuts off what filled up the last 20. */
    static void tell(JobHouse house, String text) {
        int length = (int) house.count(4) + text.length();
        for (int i = 0; i < text.length(); i += 20) {
            int[] words = new int[5];
            for (int j = 0; j < 20 && i + j < text.length(); j++) {
                words[j / 4] |= text.charAt(i + j) << (24 - j % 4 * 8);
            }
            house.feed(words[0], words[1], words[2], words[3], words[4]);
        }
        house.end(length);
    }

    private static void example() {
        JobHouse house = new JobHouse();
        tell(house, "+60 60 M3.5.0/120 M10.5.0/180");
        house.zone(0);                             // an hour ahead, in summer two
        tell(house, "0 30 8 ? * MON-FRI");
        house.cron(0);                             // at half past eight, Monday to Friday
        house.holiday(0, 0, true);                 // the first of January 1970 is a holiday

        int work = house.makeCron(0, 0, 0, 5000, 0, 1, 0);      // five seconds a run
        int once = house.make(0, 250, 0, 0, 0, 0, 0);           // a quarter of a second from now
        int often = house.make(1, 0, 43200000, 10, 9, 2, 3);    // twice a day, its third run fails
        int starts = house.advance(4 * 86400000L);              // four days go by
        for (int i = 0; i < starts; i++) {
            System.out.println(house.start(i, 0) + ": job " + house.start(i, 1));
        }
        System.out.println(house.job(work, 1));    // when it is due next: on Monday

        tell(house, "0 30 8 ? * MON-FRY");
        try {
            house.cron(0);
        } catch (UnsupportedOperationException e) {
            System.out.println("broken at " + house.count(5));
        }
    }
}
