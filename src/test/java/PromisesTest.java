import java.io.IOException;
import java.nio.file.Files;
import java.nio.file.Path;
import java.util.TreeSet;
import java.util.regex.Matcher;
import java.util.regex.Pattern;

/** Each promise of the document has a test that bears its number; it is run from the project's folder. */
public final class PromisesTest {
    private static final Check CHECK = new Check("PromisesTest");
    private static final Pattern NAMED = Pattern.compile("private static void promises?(\\d+)(?:And(\\d+))?\\w*");
    private static final int PROMISES = 34;

    public static void main(String[] args) throws IOException {
        TreeSet<Integer> tested = new TreeSet<>();
        try (var files = Files.newDirectoryStream(Path.of("src/test/java"), "*Test.java")) {
            for (Path file : files) {
                note(Files.readString(file), tested);
            }
        }
        for (int promise = 1; promise <= PROMISES; promise++) {
            CHECK.holds("promise " + promise + " has a test", tested.contains(promise));
        }
        CHECK.due("promises that have tests", tested.size(), PROMISES);
        CHECK.end();
    }

    private static void note(String text, TreeSet<Integer> tested) {
        String main = text.substring(0, text.indexOf("CHECK.end()") + 1);
        for (Matcher m = NAMED.matcher(text); m.find(); ) {
            String name = m.group().replace("private static void ", "");
            CHECK.holds(name + " is called by main", main.contains("        " + name + "();"));
            tested.add(Integer.valueOf(m.group(1)));
            if (m.group(2) != null) {
                tested.add(Integer.valueOf(m.group(2)));
            }
        }
    }
}
