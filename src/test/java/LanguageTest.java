import java.io.IOException;
import java.nio.file.Files;
import java.nio.file.Path;
import java.util.regex.Matcher;
import java.util.regex.Pattern;

/** What can be seen of LANGUAGE.md in the text of the class; it is run from the project's folder. */
public final class LanguageTest {
    private static final Check CHECK = new Check("LanguageTest");
    private static final String[] BARRED = {
        "throw", "throws", "try", "catch", "finally", "synchronized", "assert", "volatile", "transient", "native",
        "package", "protected", "Object", "var", "Exact"};
    private static final String[] LIBRARY = {
        "ArrayList", "List", "Integer", "Long", "Math", "Arrays", "System", "String", "StringBuilder",
        "Iterator", "Iterable", "Comparable"};

    public static void main(String[] args) throws IOException {
        String text = Files.readString(Path.of("src/main/java/HeaveSongs.java"));
        CHECK.holds("signs are plain", text.chars().allMatch(c -> c == '\n' || c >= 32 && c < 127));
        String code = text.replaceAll("(?s)/\\*.*?\\*/", "").replaceAll("//[^\n]*", "");
        for (String word : BARRED) {
            CHECK.holds("no " + word, !Pattern.compile("\\b" + word + "\\b").matcher(code).find());
        }
        CHECK.holds("no lambda", !code.contains("->"));
        CHECK.holds("no method reference", !code.contains("::"));
        CHECK.holds("no static block", !Pattern.compile("\\bstatic\\s*\\{").matcher(code).find());
        CHECK.holds("no name ends in Exact", !Pattern.compile("Exact\\s*\\(").matcher(code).find());
        imports(code);
        calls(code);
        methodsAreShort(text);
        CHECK.end();
    }

    private static void imports(String code) {
        Matcher m = Pattern.compile("import\\s+([^;]+);").matcher(code);
        while (m.find()) {
            CHECK.holds("import " + m.group(1), m.group(1).matches("java\\.util\\.(ArrayList|List|Arrays)"));
        }
        CHECK.holds("no full library names", !code.replaceAll("import[^;]+;", "").contains("java."));
    }

    private static void calls(String code) {
        Matcher m = Pattern.compile("\\b([A-Z][a-z]\\w*)\\s*\\.").matcher(code.replaceAll("import[^;]+;", ""));
        while (m.find()) {
            boolean own = code.contains("class " + m.group(1) + " ");
            CHECK.holds(m.group(1) + " is own or of the list", own || String.join(" ", LIBRARY).contains(m.group(1)));
        }
    }

    private static void methodsAreShort(String text) {
        int open = 0;
        int line = 0;
        String[] lines = text.split("\n");
        for (String l : lines) {
            line++;
            CHECK.holds("line " + line + " is not too long", l.length() <= 120);
            boolean opens = l.matches("\\s{4,8}[^ ].*\\) \\{") && !l.contains(" class ");
            if (opens && !l.matches("\\s*(if|for|while|switch|\\}).*")) {
                open = line;
            }
            if (open > 0 && l.matches("\\s{4}(\\s{4})?\\}")) {
                CHECK.holds("the method at line " + open + " is short", line - open < 60);
                open = 0;
            }
        }
    }
}
