import java.io.IOException;
import java.nio.file.Files;
import java.nio.file.Path;
import java.util.List;
import java.util.regex.Matcher;
import java.util.regex.Pattern;

/** Some rules of ../shared/LANGUAGE.md that the text of the class shows; it is run in the project's folder. */
final class LanguageTest {
    private static final Due due = new Due("LanguageTest");

    /** Each with the number of its rule; comments and the insides of texts and characters are not looked at. */
    private static final String[][] BANNED = {
        {"1", "\\bpackage\\b"}, {"2", "->|::"}, {"3", "\\b(Object|Boolean|Character|Long|var)\\b\\s+\\w"},
        {"4", "\\b(Map|Set|Scanner|Random|Collections|String\\.format|Exact)\\b"}, {"4", "\\bMath\\.\\w+Exact\\b"},
        {"5", "\\bstatic\\s*\\{"}, {"6", "\\b(catch|finally|try|synchronized|assert)\\b"},
        {"6", "\\b(equals|hashCode|toString)\\s*\\("}, {"10", "\"\\s*\\+|\\+\\s*\""},
        {"13", "\\b(System\\.(nano|current|getenv|getProperty|out|err|in)|Thread|java\\.io|java\\.time)\\b"},
    };

    private static final Pattern THROW = Pattern.compile("\\bthrow\\b[^;]*;");
    private static final Pattern GOOD_THROW = Pattern.compile("throw new (IllegalStateException"
            + "|IllegalArgumentException|IndexOutOfBoundsException|NoSuchElementException)\\((\"\")?\\);");
    private static final Pattern METHOD = Pattern.compile("^ {4,8}(?! )[\\w\\[\\] ]*\\w+\\(([^)]*)\\).*\\{$");

    public static void main(String[] args) throws IOException {
        List<String> lines = Files.readAllLines(Path.of("src/main/java/LineLeases.java"));
        StringBuilder code = new StringBuilder();
        for (String line : lines) {
            String bare = line.replaceAll("'(\\\\.|[^'])'", "' '").replaceAll("\"[^\"]*\"", "\"\"");
            if (!bare.strip().startsWith("/**") && !bare.strip().startsWith("*")) {
                code.append(bare.replaceAll("//.*", "")).append('\n');
            }
        }
        for (String[] ban : BANNED) {
            Matcher m = Pattern.compile(ban[1]).matcher(code);
            due.holds("rule " + ban[0] + " bans this: " + (m.find() ? m.group() : ""), !m.reset().find());
        }
        for (Matcher m = Pattern.compile("import ([^;]*);").matcher(code); m.find();) {
            due.holds("import of " + m.group(1), m.group(1).equals("java.util.NoSuchElementException"));
        }
        for (Matcher m = THROW.matcher(code); m.find();) {
            due.holds("rule 6: " + m.group(), GOOD_THROW.matcher(m.group()).matches());
        }
        for (Matcher m = Pattern.compile("\"[^\"]*\"").matcher(String.join("\n", lines)); m.find();) {
            due.holds("rule 4, signs of a text: " + m.group(), m.group().matches("[\\x01-\\x7f]*"));
        }
        methodsAreShort(code.toString().split("\n", -1));
        int classes = code.toString().split("\\bclass\\b", -1).length - 1;
        due.holds("rule 11: at most 12 classes, not " + classes, classes <= 12);
        due.end();
    }

    private static void methodsAreShort(String[] lines) {
        int methods = 0;
        for (int i = 0; i < lines.length; i++) {
            Matcher m = METHOD.matcher(lines[i]);
            if (m.matches()) {
                methods++;
                String indent = lines[i].substring(0, lines[i].indexOf(lines[i].strip()));
                int end = i + 1;
                while (end < lines.length && !lines[end].equals(indent + "}")) {
                    end++;
                }
                due.holds("rule 11: a short method: " + lines[i].strip(), end - i <= 60);
                due.holds("rule 11: few parameters: " + lines[i].strip(), m.group(1).split(",").length <= 7);
            }
        }
        due.holds("the methods are found: " + methods, methods > 60);
    }
}
