import java.io.IOException;
import java.nio.charset.StandardCharsets;
import java.nio.file.Files;
import java.nio.file.Path;
import java.util.HashSet;
import java.util.Set;
import java.util.regex.Matcher;
import java.util.regex.Pattern;

/** Each test that SENTENCES.md names is there, and each test of the edges is named there. */
public final class SentencesTest {
    private static final Path LIST = Path.of("src/test/SENTENCES.md");
    private static final Pattern NAME = Pattern.compile("`(\\w+Test)\\.(\\w+)`");

    private SentencesTest() {
    }

    public static void main(String[] args) throws IOException {
        Set<String> named = new HashSet<>();
        Matcher names = NAME.matcher(Files.readString(LIST, StandardCharsets.ISO_8859_1));
        while (names.find()) {
            named.add(names.group(1) + "." + names.group(2));
        }
        for (String name : named) {
            Checks.holds(name + " is there", called(name.substring(0, name.indexOf('.'))).contains(name));
        }
        for (String test : new String[] {"NumbersTest", "EmptyAndFullTest", "WrapTest"}) {
            for (String name : called(test)) {
                Checks.holds(name + " is named", named.contains(name) || name.endsWith(".constants"));
            }
        }
        Checks.end();
    }

    /** The tests that the main method of a class calls, each in a row of its own. */
    private static Set<String> called(String test) throws IOException {
        Set<String> called = new HashSet<>();
        String source = Files.readString(Path.of("src/test/java/" + test + ".java"), StandardCharsets.ISO_8859_1);
        Matcher rows = Pattern.compile("\n {8}(\\w+)\\((?:\"\\w+\")?\\);").matcher(source);
        while (rows.find()) {
            called.add(test + "." + rows.group(1));
        }
        return called;
    }
}
