import java.io.IOException;
import java.lang.reflect.Method;
import java.lang.reflect.Modifier;
import java.nio.charset.StandardCharsets;
import java.nio.file.Files;
import java.nio.file.Path;
import java.util.List;
import java.util.regex.Matcher;
import java.util.regex.Pattern;

/**
 * README.md says how to use the class: its example answers as it says, and its table has every call
 * of the document's 'The public face' by its promise, 1 (A new object) to 26 (digest).
 */
public final class ReadmeTest {
    private static final Checks CHECKS = new Checks("ReadmeTest");
    private static final Path README = Path.of("README.md");
    private static final Path SELF = Path.of("src/test/java/ReadmeTest.java");
    private static final Pattern ANSWERED = Pattern.compile(
            "(.*);\\s*// (-?\\d+|NightWater\\.[A-Z]+)(,.*)?");

    private static final String[] BY_PROMISE = {
        "NightWater", "zone", "rules", "read", "low", "leaks", "valve", "group", "explains",
        "fewest", "sample", "echo", "sum", "delay", "place", "section", "cost", "closes",
        "closings", "dig", "clear", "lost", "order", "pulled", "count", "digest"
    };

    public static void main(String[] args) throws IOException {
        List<String> page = Files.readAllLines(README, StandardCharsets.UTF_8);
        example();
        exampleIsThatOfThePage(page);
        everyCallHasItsRow(page);
        CHECKS.finish();
    }

    private static void due(long got, long want) {
        CHECKS.due("the example", got, want);
    }

    /** The lines of the page's example; where the page tells an answer, it is due here. */
    private static void example() {
        NightWater town = new NightWater();
        int harbour = town.zone(40, 30);
        int hill = town.zone(10, 0);
        for (int hour = 1; hour <= 4; hour++) {
            town.read(harbour, hour, true, 900);
            town.read(harbour, hour, false, 120);
            town.read(hill, hour, true, 50);
            town.read(hill, hour, false, 200);
        }
        due(town.read(harbour, 4, true, 700), 900);
        due(town.read(harbour, 2, true, NightWater.NONE), 900);
        due(town.low(harbour, 2), 4);
        due(town.low(harbour, 0), 563);
        due(town.low(harbour, 1), 597);
        due(town.leaks(harbour, 0), 453);
        due(town.leaks(harbour, 1), 567);
        due(town.leaks(hill, 1), -145);
        int gate = town.valve(harbour, hill);
        due(town.explains(0), 0);
        due(town.explains(1 << gate), 1);
        due(town.fewest(), 1);
        due(town.group(hill, 1 << gate), 0);
        due(town.sample(0, 10, 5), 1);
        due(town.sample(0, 11, -7), 1);
        due(town.echo(1, 14, 10, 2), 1);
        due(town.delay(false), 4);
        due(town.sum(4, 0), 74);
        due(town.place(100, 5, 9, 0), 64);
        due(town.place(100, 5, 9, 1), 80);
        due(town.section(4, 0, 1), 0);
        due(town.section(4, 1, 2), 0);
        due(town.section(4, 2, 3), 0);
        due(town.section(4, 3, 9), 0);
        due(town.cost(0, 3), 24);
        due(town.closes(0, 3), 3);
        due(town.closings(0), 3);
        due(town.dig(10, 5), 0);
        due(town.dig(20, 5), 1);
        due(town.order(0), 1);
        due(town.lost(), 200);
        due(town.pulled(100, 4, 2), 35);
        due(town.zone(-1, 0), NightWater.BAD);
        due(town.leaks(2, 0), NightWater.NOT);
    }

    private static void exampleIsThatOfThePage(List<String> page) throws IOException {
        String self = Files.readString(SELF, StandardCharsets.UTF_8);
        int at = self.indexOf("void example()");
        int lines = 0;
        int end = page.subList(page.indexOf("```java"), page.size()).indexOf("```");
        for (String line : page.subList(page.indexOf("```java") + 1, page.indexOf("```java") + end)) {
            String code = line.trim();
            if (code.isEmpty() || code.startsWith("//")) {
                continue;
            }
            Matcher answered = ANSWERED.matcher(code);
            String here = answered.matches()
                    ? "due(" + answered.group(1) + ", " + answered.group(2) + ");" : code;
            int found = self.indexOf("\n        " + (line.startsWith(" ") ? "    " : "") + here + "\n", at);
            CHECKS.holds("the page's line is tried in its turn: " + line, found >= 0);
            at = Math.max(at, found + 1);
            lines++;
        }
        CHECKS.holds("the page has an example", lines > 20);
    }

    private static void everyCallHasItsRow(List<String> page) {
        for (int promise = 1; promise <= BY_PROMISE.length; promise++) {
            String begin = "| " + promise + " | `" + BY_PROMISE[promise - 1] + "(";
            int rows = 0;
            for (String line : page) {
                if (line.startsWith(begin)) {
                    rows++;
                    String taken = line.substring(begin.length(), line.indexOf(')'));
                    CHECKS.holds("P" + promise + " takes " + taken,
                            types(taken).equals(typesOf(BY_PROMISE[promise - 1])));
                }
            }
            CHECKS.due("P" + promise + "'s rows", rows, 1);
        }
    }

    /** "int i, boolean in" without the names: "int boolean ". */
    private static String types(String taken) {
        return taken.isEmpty() ? "" : taken.replaceAll(" \\w+(, |$)", " ");
    }

    private static String typesOf(String call) {
        StringBuilder types = new StringBuilder();
        for (Method method : NightWater.class.getDeclaredMethods()) {
            if (Modifier.isPublic(method.getModifiers()) && method.getName().equals(call)) {
                for (Class<?> type : method.getParameterTypes()) {
                    types.append(type.getName()).append(' ');
                }
            }
        }
        return types.toString();
    }
}
