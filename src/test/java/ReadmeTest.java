import java.io.IOException;
import java.lang.reflect.Field;
import java.lang.reflect.Method;
import java.lang.reflect.Modifier;
import java.nio.file.Files;
import java.nio.file.Path;
import java.util.regex.Matcher;
import java.util.regex.Pattern;

/** README.md shows the whole face, and tells how to run the tests; ReadmeCode makes its code a test of its own. */
final class ReadmeTest {
    private static final Pattern STATEMENT = Pattern.compile("^\\| `([a-z][^`]*;)` \\|", Pattern.MULTILINE);

    private final Due due = new Due("ReadmeTest");
    private final String text;
    private final String code;

    private ReadmeTest() throws IOException {
        text = Files.readString(Path.of("README.md"));
        code = String.join("", ReadmeCode.blocks());
    }

    public static void main(String[] args) throws IOException {
        ReadmeTest test = new ReadmeTest();
        test.tellsUseAndTests();
        test.showsEachMethod();
        test.namesEachConstant();
        test.showsThrows();
        test.firstBytesAreTheTextAboveThem();
        test.statementsCanBeLoaded();
        test.due.end();
    }

    private void tellsUseAndTests() {
        for (String words : new String[] {"## How to use it", "## How to run its tests", "`bash .ci/run`",
                "src/main/java/LineLeases.java", "src/test/java"}) {
            due.holds("README.md has: " + words, text.contains(words));
        }
    }

    private void showsEachMethod() {
        for (Method method : LineLeases.class.getDeclaredMethods()) {
            if (Modifier.isPublic(method.getModifiers())) {
                due.holds("README.md's code calls " + method.getName(), code.contains("." + method.getName() + "("));
            }
        }
    }

    private void namesEachConstant() {
        for (Field field : LineLeases.class.getFields()) {
            try {
                String shown = "// " + field.getInt(null) + ": " + field.getName();
                due.holds("README.md's code has: " + shown, code.contains(shown));
            } catch (IllegalAccessException e) {
                due.holds(field.getName() + " can be read", false);
            }
        }
    }

    private void showsThrows() {
        for (String name : new String[] {"IndexOutOfBoundsException", "IllegalArgumentException",
                "NoSuchElementException", "IllegalStateException"}) {
            due.holds("README.md's code shows a throw of " + name, code.contains("// throws " + name));
        }
    }

    private void firstBytesAreTheTextAboveThem() {
        Matcher quoted = Pattern.compile("^// \"(.*)\" as bytes", Pattern.MULTILINE).matcher(code);
        due.holds("README.md quotes the text that it appends", quoted.find());
        StringBuilder bytes = new StringBuilder();
        Matcher word = Pattern.compile("0x([0-9a-f]{8})").matcher(code);
        while (word.find()) {
            int value = Integer.parseUnsignedInt(word.group(1), 16);
            for (int shift = 24; shift >= 0; shift -= 8) {
                bytes.append((char) (value >>> shift & 0xff));
            }
        }
        due.holds("the bytes are the text", quoted.group(1).equals(bytes.toString().stripTrailing()));
        due.holds("as many bytes are loaded", code.contains("a.load(" + quoted.group(1).length() + ")"));
    }

    private void statementsCanBeLoaded() {
        StringBuilder setup = new StringBuilder("lines;handler 1 1;");
        int count = 0;
        Matcher statement = STATEMENT.matcher(text);
        while (statement.find()) {
            setup.append(statement.group(1));
            count++;
        }
        due.same("statements in README.md's table", 9, count);
        due.same(setup.toString(), 1, Due.load(new LineLeases(), setup.toString()));
    }
}
