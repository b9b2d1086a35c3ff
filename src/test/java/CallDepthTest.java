import java.io.IOException;
import java.nio.file.Files;
import java.nio.file.Path;
import java.util.HashMap;
import java.util.HashSet;
import java.util.Map;
import java.util.Set;
import java.util.TreeMap;
import java.util.regex.Matcher;
import java.util.regex.Pattern;

/** Rule 11 of LANGUAGE.md: calls go at most eight deep, the call of the face being the first. */
final class CallDepthTest {
    private static final int MOST = 8;
    private static final Pattern CLASS = Pattern.compile("\\bclass (\\w+) \\{");
    private static final Pattern CALL = Pattern.compile("(?:(\\w+)(?:\\[[^;]*?\\])?\\.)?(\\w+)\\(");

    /** The text of each method's body, by its class and name. */
    private static final Map<String, String> BODIES = new TreeMap<>();
    /** The classes of all variables of a name. */
    private static final Map<String, Set<String>> CLASSES = new HashMap<>();
    private static final Map<String, String> LONGEST = new HashMap<>();

    public static void main(String[] args) throws IOException {
        String source = LanguageTest.plain(
                Files.readString(Path.of("src/main/java/JobHouse.java")));
        readClasses(source);
        for (String method : BODIES.keySet()) {
            String chain = longest(method, new HashSet<>());
            Check.is(chain, length(chain) > MOST ? 1 : 0, 0);
        }
        Check.is("methods were seen", BODIES.size() > 80 ? 1 : 0, 1);
        Check.is("calls between classes, too", longest("JobHouse.advance", new HashSet<>())
                .contains("Fires.") ? 1 : 0, 1);
        Check.finish();
    }

    private static void readClasses(String source) {
        Matcher matcher = CLASS.matcher(source);
        Set<String> names = new HashSet<>();
        String outer = source;
        while (matcher.find()) {
            String name = matcher.group(1);
            names.add(name);
            if (!name.equals("JobHouse")) {
                String body = LanguageTest.block(source, matcher.end() - 1);
                readMethods(name, body);
                outer = outer.replace(body, "");
            }
        }
        readMethods("JobHouse", outer);
        Matcher variable = Pattern.compile("\\b(\\w+)(?:\\[\\])? (\\w+)(?= =|[;,)])")
                .matcher(source);
        while (variable.find()) {
            if (names.contains(variable.group(1))) {
                CLASSES.computeIfAbsent(variable.group(2), name -> new HashSet<>())
                        .add(variable.group(1));
            }
        }
        for (String name : names) {
            CLASSES.put(name, Set.of(name));
        }
    }

    private static void readMethods(String name, String text) {
        Matcher matcher = LanguageTest.METHOD.matcher(text);
        while (matcher.find()) {
            String body = LanguageTest.block(text, matcher.end() - 1);
            Check.is("one " + name + "." + matcher.group(1),
                    BODIES.put(name + "." + matcher.group(1), body) == null ? 1 : 0, 1);
        }
    }

    private static int length(String chain) {
        return chain.isEmpty() ? 0 : chain.split(" > ").length;
    }

    /** The longest chain of calls that begins with the method; the library ends a chain. */
    private static String longest(String method, Set<String> open) {
        if (LONGEST.containsKey(method)) {
            return LONGEST.get(method);
        }
        Check.is("no recursion of " + method, open.add(method) ? 0 : 1, 0);
        String own = method.substring(0, method.indexOf('.'));
        String best = "";
        Matcher matcher = CALL.matcher(BODIES.get(method));
        while (matcher.find()) {
            String receiver = matcher.group(1) == null ? own : matcher.group(1);
            for (String name : CLASSES.getOrDefault(receiver, Set.of(receiver))) {
                String called = name + "." + matcher.group(2);
                String chain = BODIES.containsKey(called) ? longest(called, open)
                        : name.matches("Math|Long|System") ? called : "";
                best = length(chain) > length(best) ? chain : best;
            }
        }
        open.remove(method);
        String chain = best.isEmpty() ? method : method + " > " + best;
        LONGEST.put(method, chain);
        return chain;
    }
}
