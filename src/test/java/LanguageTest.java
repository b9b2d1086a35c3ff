import java.io.IOException;
import java.nio.file.Files;
import java.nio.file.Path;
import java.util.Set;
import java.util.TreeSet;
import java.util.regex.Matcher;
import java.util.regex.Pattern;

/** JobHouse.java keeps to the rules of LANGUAGE.md, as far as its text shows it. */
final class LanguageTest {
    private static final Set<String> LIBRARY = Set.of("Math.max", "Math.min", "Math.abs",
            "Math.floorDiv", "Math.floorMod", "Long.bitCount", "System.arraycopy");
    private static final Set<String> EXCEPTIONS = Set.of("IllegalStateException",
            "IllegalArgumentException", "IndexOutOfBoundsException",
            "UnsupportedOperationException", "NoSuchElementException");

    /** The head of a method, its name and its parameters. */
    static final Pattern METHOD = Pattern.compile(
            "(?m)^ +(?!.*\\b(?:new|return|else|class)\\b)[\\w\\[\\] ]+"
            + " (\\w+)\\(([^()]*)\\)[^;{]*\\{");

    private static String source;

    public static void main(String[] args) throws IOException {
        source = plain(Files.readString(Path.of("src/main/java/JobHouse.java")));
        Check.is("something is there", source.length() > 10000 ? 1 : 0, 1);
        words();
        library();
        exceptions();
        staticFields();
        countingLoops();
        otherLoops();
        sizes();
        Check.finish();
    }

    /** Without comments, and with nothing inside its texts. */
    static String plain(String text) {
        return text.replaceAll("(?s)/\\*.*?\\*/", "").replaceAll("//[^\\n]*", "")
                .replaceAll("\"[^\"\\n]*\"", "\"\"").replaceAll("'[^'\\n]+'", "0");
    }

    private static Matcher find(String pattern) {
        return Pattern.compile(pattern, Pattern.MULTILINE).matcher(source);
    }

    private static void none(String rule, String pattern) {
        Matcher matcher = find(pattern);
        while (matcher.find()) {
            Check.is(rule + ": " + matcher.group(), 1, 0);
        }
    }

    private static void words() {
        none("rule 1: no package line", "^package\\b");
        none("rule 2: no lambda, no method reference", "->|::");
        none("rule 3: no number with a point", "\\b(double|float|Double|Float)\\b");
        none("rule 5: no static initialiser", "\\bstatic\\s*\\{");
        none("rule 6: left out", "\\b(try|catch|finally|synchronized|assert|instanceof)\\b");
        none("rule 6: no answer by object", "\\b(equals|hashCode|toString)\\b");
        none("rule 10: no texts joined by +", "\"\\s*\\+|\\+\\s*\"");
        none("rule 13: no world outside", "\\b(Thread|Random|currentTimeMillis|nanoTime|File)\\b");
    }

    private static void library() {
        Set<String> imports = new TreeSet<>();
        Matcher matcher = find("^import ([^;]+);");
        while (matcher.find()) {
            imports.add(matcher.group(1));
        }
        Check.is("rule 4: imports " + imports,
                imports.equals(Set.of("java.util.NoSuchElementException")) ? 1 : 0, 1);
        Matcher calls = find("\\b(?:Math|Long|Integer|System|Arrays|Character|String)\\.\\w+");
        while (calls.find()) {
            Check.is("rule 4: " + calls.group(), LIBRARY.contains(calls.group()) ? 1 : 0, 1);
        }
    }

    private static void exceptions() {
        Matcher matcher = find("\\bthrow\\b[^;]*;");
        while (matcher.find()) {
            Matcher form = Pattern.compile("throw new (\\w+)\\(\\);").matcher(matcher.group());
            boolean known = form.matches() && EXCEPTIONS.contains(form.group(1));
            Check.is("rule 6: " + matcher.group(), known ? 1 : 0, 1);
        }
        Matcher constructor = find("public JobHouse\\(\\) \\{");
        Check.is("the constructor", constructor.find() ? 1 : 0, 1);
        Check.is("rule 6: no throw in it",
                block(constructor.end() - 1).matches("(?s).*\\b(throw|check\\w+)\\b.*") ? 1 : 0, 0);
    }

    private static void staticFields() {
        Matcher matcher = find("\\bstatic\\b(?! final class)[^;{(=]*[;=]");
        while (matcher.find()) {
            boolean fixed = matcher.group().matches("(?s)static final (int|long|String) \\w+ =");
            Check.is("rule 5: " + matcher.group(), fixed ? 1 : 0, 1);
        }
    }

    private static String block(int open) {
        return block(source, open);
    }

    /** What stands between the brace at the given place and its partner. */
    static String block(String text, int open) {
        int depth = 0;
        for (int i = open; i < text.length(); i++) {
            depth += text.charAt(i) == '{' ? 1 : text.charAt(i) == '}' ? -1 : 0;
            if (depth == 0) {
                return text.substring(open + 1, i);
            }
        }
        throw new AssertionError("a brace without a partner");
    }

    /** Rule 9: a counter against a bound, that goes on by itself and by nothing else. */
    private static void countingLoops() {
        Matcher matcher = find("\\bfor \\(([^\\n]*)\\) \\{");
        int seen = 0;
        while (matcher.find()) {
            seen++;
            String[] parts = matcher.group(1).split(";");
            String what = "rule 9: for (" + matcher.group(1) + ")";
            Check.is(what + " has three parts", parts.length, 3);
            String counter = parts[0].replaceAll("int (\\w+) = .*", "$1");
            Check.is(what + " has a bound", parts[1].matches(
                    ".*\\b" + counter + "( \\+ 3)? [<>]=? .*") ? 1 : 0, 1);
            boolean up = parts[1].matches(".*\\b" + counter + "( \\+ 3)? <=? .*");
            String step = up ? "(\\+\\+| \\+= ([1-9]\\d*|Math\\.max\\(\\w+, 1\\)))"
                    : "(--| -= [1-9]\\d*)";
            Check.is(what + " goes on", parts[2].matches(" " + counter + step) ? 1 : 0, 1);
            Pattern change = Pattern.compile("(?<![\\w.])" + counter
                    + "( [-+*/%|&^]?= |\\+\\+|--)|(\\+\\+|--)" + counter + "\\b");
            Check.is(what + " changes its counter inside",
                    change.matcher(block(matcher.end() - 1)).find() ? 1 : 0, 0);
        }
        Check.is("loops were seen", seen > 20 ? 1 : 0, 1);
        Check.is("all of them", seen, find("\\bfor\\b").results().count());
    }

    /** Rule 9: what a while loop compares goes on in its own lines. */
    private static void otherLoops() {
        none("rule 9: no do", "\\bdo\\b");
        Matcher matcher = find("\\bwhile \\((\\w+) < (\\w+)\\b[^\\n]*\\{");
        int seen = 0;
        while (matcher.find()) {
            seen++;
            String body = block(matcher.end() - 1);
            boolean counts = body.contains(matcher.group(1) + "++;");
            boolean halves = body.contains(matcher.group(1) + " = middle + 1;")
                    && body.contains(matcher.group(2) + " = middle;");
            Check.is("rule 9: " + matcher.group(), counts || halves ? 1 : 0, 1);
        }
        Check.is("rule 9: all of them", seen, find("\\bwhile\\b").results().count());
    }

    private static void sizes() {
        Check.is("rule 11: few classes", find("\\bclass \\w+ \\{").results().count() <= 12 ? 1 : 0,
                1);
        Matcher matcher = METHOD.matcher(source);
        int seen = 0;
        while (matcher.find()) {
            seen++;
            String name = matcher.group().trim();
            long lines = block(matcher.end() - 1).lines().count();
            Check.is("rule 11: " + name + " is short", lines <= 60 ? 1 : 0, 1);
            Check.is("rule 11: " + name + " takes few",
                    matcher.group(2).split(",").length <= 7 ? 1 : 0, 1);
        }
        Check.is("methods were seen", seen > 80 ? 1 : 0, 1);
    }
}
