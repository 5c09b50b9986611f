import java.io.IOException;
import java.lang.reflect.Method;
import java.nio.charset.StandardCharsets;
import java.nio.file.DirectoryStream;
import java.nio.file.Files;
import java.nio.file.Path;
import java.util.ArrayList;
import java.util.HashMap;
import java.util.HashSet;
import java.util.List;
import java.util.Map;
import java.util.Set;
import java.util.TreeSet;
import java.util.regex.Matcher;
import java.util.regex.Pattern;

/** What README.md says holds: its example answers so, its tables name each call, each refusal and each test. */
public final class ReadmeTest {
    private static final Pattern CALL = Pattern.compile("x\\.(\\w+)\\(([^()]*)\\); +// (-?\\w+): \\S.*");
    private static final Pattern TOLD = Pattern.compile("tell\\(x, \"([^\"]*)\"\\);");
    private static final Pattern REFUSAL = Pattern.compile("\\b(UNKNOWN|OUTSIDE|NOT|FULL)\\b");

    // The document's promises: a call, and the answers by which it is refused.
    private static final String[] REFUSED = {
        "write OUTSIDE FULL", "erase", "fault", "house NOT", "clock UNKNOWN OUTSIDE", "shows UNKNOWN OUTSIDE",
        "can UNKNOWN OUTSIDE", "fits OUTSIDE", "times OUTSIDE", "liars OUTSIDE", "next OUTSIDE",
        "note UNKNOWN OUTSIDE FULL", "burn", "rates UNKNOWN OUTSIDE", "again OUTSIDE", "stopped UNKNOWN OUTSIDE NOT",
        "setBy UNKNOWN OUTSIDE NOT", "egg UNKNOWN OUTSIDE NOT", "order OUTSIDE NOT", "keep UNKNOWN",
        "back UNKNOWN NOT", "count OUTSIDE",
    };

    private ReadmeTest() {
    }

    public static void main(String[] args) throws Exception {
        String readme = read("README.md");
        Map<String, String> calls = callsOfTheClass();
        example(readme, calls.keySet());
        callsAreTold(readme, calls, refusalsOfTheDocument());
        answersAreTold(readme);
        linesAreTold(readme);
        testsAreTold(readme);
        Checks.end();
    }

    private static String read(String file) throws IOException {
        return Files.readString(Path.of(file), StandardCharsets.ISO_8859_1);
    }

    /** By name what stands behind it in the class, without types: each call of the face but the constructor. */
    private static Map<String, String> callsOfTheClass() throws IOException {
        Map<String, String> calls = new HashMap<>();
        Matcher heads = Pattern.compile("\n {4}public (?:int|long) (\\w+)\\((.*)\\) \\{")
                .matcher(read("src/main/java/WrongClocks.java"));
        while (heads.find()) {
            calls.put(heads.group(1), "(" + heads.group(2).replaceAll("\\b(int|long) ", "") + ")");
        }
        Checks.due(0, "calls of the class", calls.size(), 22);
        return calls;
    }

    /** Each row of the block that begins with a new object is done, and each call must answer as it says. */
    private static void example(String readme, Set<String> calls) throws Exception {
        int from = readme.indexOf("```java\nWrongClocks x = new WrongClocks();\n");
        Checks.holds("the example is there", from >= 0);
        String[] rows = readme.substring(from, readme.indexOf("\n```\n", from)).split("\n");
        WrongClocks x = new WrongClocks();
        Set<String> done = new HashSet<>();
        Set<String> answers = new HashSet<>();
        for (int i = 2; i < rows.length; i++) {
            Matcher told = TOLD.matcher(rows[i]);
            Matcher call = CALL.matcher(rows[i]);
            if (told.matches()) {
                Checks.write(x, told.group(1));
                continue;
            }
            Checks.holds("a call with its answer: " + rows[i], call.matches());
            Checks.due(0, rows[i], called(x, call.group(1), call.group(2)), valueOf(call.group(3)));
            done.add(call.group(1));
            answers.add(call.group(3));
        }
        Checks.holds("each call stands in the example but " + without(calls, done), done.equals(calls));
        for (String answer : List.of("NONE", "UNKNOWN", "OUTSIDE", "NOT")) {
            Checks.holds("the example answers " + answer, answers.contains(answer));
        }
    }

    private static Set<String> without(Set<String> all, Set<String> some) {
        Set<String> rest = new TreeSet<>(all);
        rest.removeAll(some);
        return rest;
    }

    private static long called(WrongClocks x, String name, String given) throws Exception {
        String[] texts = given.isEmpty() ? new String[0] : given.split(", ");
        for (Method method : WrongClocks.class.getDeclaredMethods()) {
            if (method.getName().equals(name) && method.getParameterCount() == texts.length) {
                Object[] numbers = new Object[texts.length];
                for (int i = 0; i < texts.length; i++) {
                    boolean isLong = method.getParameterTypes()[i] == long.class;
                    numbers[i] = isLong ? (Object) Long.valueOf(texts[i].replace("L", "")) : Integer.valueOf(texts[i]);
                }
                return ((Number) method.invoke(x, numbers)).longValue();
            }
        }
        throw new IllegalArgumentException(name + "(" + given + ") is no call of the class");
    }

    private static long valueOf(String answer) throws Exception {
        return answer.matches("-?\\d+") ? Long.parseLong(answer) : WrongClocks.class.getField(answer).getInt(null);
    }

    /** By name of a call the answers by which the document has it refused. */
    private static Map<String, Set<String>> refusalsOfTheDocument() {
        Map<String, Set<String>> refusals = new HashMap<>();
        for (String row : REFUSED) {
            refusals.put(row.split(" ")[0], refusalsIn(row));
        }
        return refusals;
    }

    private static Set<String> refusalsIn(String text) {
        Set<String> refusals = new TreeSet<>();
        Matcher found = REFUSAL.matcher(text);
        while (found.find()) {
            refusals.add(found.group());
        }
        return refusals;
    }

    private static void callsAreTold(String readme, Map<String, String> calls, Map<String, Set<String>> refusals) {
        String table = between(readme, "## What each call answers", "## What a refused call answers");
        for (String call : calls.keySet()) {
            String head = "| `" + call + calls.get(call) + "` |";
            List<String> rows = new ArrayList<>();
            table.lines().filter(row -> row.startsWith(head)).forEach(rows::add);
            Checks.due(0, "rows of README.md that begin with " + head, rows.size(), 1);
            for (String row : rows) {
                String[] cells = row.split("\\|");
                Checks.due(0, "cells of " + row, cells.length, 4);
                Checks.holds("refused as the document says: " + row, refusalsIn(cells[3]).equals(refusals.get(call)));
            }
        }
    }

    private static void answersAreTold(String readme) {
        String part = between(readme, "## What a refused call answers", "## How to run its tests");
        String[] names = {"NONE", "UNKNOWN", "OUTSIDE", "NOT", "FULL"};
        int[] values = {WrongClocks.NONE, WrongClocks.UNKNOWN, WrongClocks.OUTSIDE, WrongClocks.NOT, WrongClocks.FULL};
        int at = -1;
        for (int i = 1; i < names.length; i++) {
            int place = part.indexOf("| `" + names[i] + "` (" + values[i] + ") |");
            Checks.holds(names[i] + " is told behind those that go ahead of it", place > at);
            at = place;
        }
        Checks.holds("NONE is told", part.contains("`" + names[0] + "` (" + values[0] + ")"));
    }

    /** Each line that the table tells can be done, its letters being numbers that are never out of their bounds. */
    private static void linesAreTold(String readme) {
        String table = between(readme, "| line | what it tells |", "\n\n");
        int lines = 0;
        for (String row : table.split("\n")) {
            Matcher line = Pattern.compile("\\| `([a-z]+(?: [A-Z])*)` \\|.*").matcher(row);
            if (line.matches()) {
                lines++;
                String text = "stopped 0 0;" + line.group(1).replaceAll("[A-Z]", "0");
                WrongClocks x = new WrongClocks();
                Checks.write(x, text);
                Checks.due(4, "fault() of \"" + text + "\"", x.fault(), WrongClocks.NONE);
                Checks.due(5, "house() of \"" + text + "\"", x.house(), 2);
            }
        }
        Checks.due(0, "lines that README.md tells", lines, 6);
    }

    private static void testsAreTold(String readme) throws IOException {
        String part = readme.substring(readme.indexOf("## How to run its tests"));
        Set<String> told = new TreeSet<>();
        Matcher names = Pattern.compile("\n\\| `(\\w+)` \\|").matcher(part);
        while (names.find()) {
            told.add(names.group(1) + ".java");
        }
        Set<String> there = new TreeSet<>();
        try (DirectoryStream<Path> files = Files.newDirectoryStream(Path.of("src/test/java"), "*Test.java")) {
            files.forEach(file -> there.add(file.getFileName().toString()));
        }
        Checks.holds("tests told " + told + " are those there " + there, told.equals(there));
        Checks.holds("how to run them is told", part.contains("sh .ci/run") && Files.exists(Path.of(".ci/run")));
    }

    private static String between(String text, String head, String end) {
        int from = text.indexOf(head);
        int to = from < 0 ? -1 : text.indexOf(end, from + head.length());
        Checks.holds("README.md has \"" + head + "\"", from >= 0 && to >= 0);
        return from >= 0 && to >= 0 ? text.substring(from + head.length(), to) : "";
    }
}
