import java.io.IOException;
import java.lang.reflect.Method;
import java.lang.reflect.Modifier;
import java.nio.file.Files;
import java.nio.file.Path;
import java.util.regex.Matcher;
import java.util.regex.Pattern;

/** README.md tells of every call, and its example answers what it says; it is run from the project's folder. */
public final class ReadmeTest {
    private static final Check CHECK = new Check("ReadmeTest");
    private static final Pattern EXAMPLE = Pattern.compile("(?m)^x\\.(\\w+)\\(([^)]*)\\); +// (-?\\d+)");
    private static final Pattern IN_TABLE = Pattern.compile("(?m)^\\| `(\\w+)\\(([^)]*)\\)` \\| [^|]+ \\|$");
    private static final int FACE = 33;

    public static void main(String[] args) throws ReflectiveOperationException, IOException {
        String page = Files.readString(Path.of("README.md"));
        everyCallIsInATable(page);
        theExampleAnswersSo(page);
        refusalsAreTold(page);
        everyTestIsTold(page);
        CHECK.end();
    }

    private static void everyCallIsInATable(String page) {
        int told = 0;
        for (Matcher m = IN_TABLE.matcher(page); m.find(); told++) {
            Method call = called(m.group(1));
            CHECK.holds(m.group() + " is of the face", call != null);
            if (call != null) {
                CHECK.due(m.group() + " takes", numbers(m.group(2)).length, call.getParameterCount());
            }
        }
        CHECK.due("calls in README's tables", told, FACE);
        for (Method call : HeaveSongs.class.getDeclaredMethods()) {
            if (Modifier.isPublic(call.getModifiers())) {
                int rows = page.split("\\| `" + call.getName() + "\\(").length - 1;
                CHECK.due("rows for " + call.getName(), rows, 1);
            }
        }
    }

    private static void theExampleAnswersSo(String page) throws ReflectiveOperationException {
        HeaveSongs x = new HeaveSongs();
        int lines = 0;
        for (Matcher m = EXAMPLE.matcher(page); m.find(); lines++) {
            Method call = called(m.group(1));
            String[] told = numbers(m.group(2));
            Object[] given = new Object[told.length];
            for (int i = 0; i < told.length; i++) {
                boolean isLong = call.getParameterTypes()[i] == long.class;
                given[i] = isLong ? (Object) Long.valueOf(told[i]) : (Object) Integer.valueOf(told[i]);
            }
            long got = ((Number) call.invoke(x, given)).longValue();
            CHECK.due("README: " + m.group(), got, Long.parseLong(m.group(3)));
        }
        CHECK.due("lines of the example", lines, page.split("\nx\\.").length - 1);
        CHECK.holds("there is an example", lines > 0);
    }

    private static void refusalsAreTold(String page) {
        CHECK.holds("NONE", page.contains("`NONE` (" + HeaveSongs.NONE + ")"));
        CHECK.holds("BAD", page.contains("- `BAD` (" + HeaveSongs.BAD + ")"));
        CHECK.holds("NO", page.contains("- `NO` (" + HeaveSongs.NO + ")"));
        CHECK.holds("FULL", page.contains("- `FULL` (" + HeaveSongs.FULL + ")"));
        CHECK.holds("how the tests are run", page.contains("\n    .ci/run\n"));
    }

    private static void everyTestIsTold(String page) throws IOException {
        try (var files = Files.newDirectoryStream(Path.of("src/test/java"), "*Test.java")) {
            for (Path file : files) {
                String name = file.getFileName().toString().replace(".java", "");
                CHECK.holds(name + " is told", page.contains("`" + name + "`"));
            }
        }
    }

    private static Method called(String name) {
        for (Method m : HeaveSongs.class.getDeclaredMethods()) {
            if (m.getName().equals(name) && Modifier.isPublic(m.getModifiers())) {
                return m;
            }
        }
        return null;
    }

    private static String[] numbers(String given) {
        return given.isBlank() ? new String[0] : given.split(", ");
    }
}
