import java.io.IOException;
import java.nio.file.Files;
import java.nio.file.Path;
import java.util.ArrayList;
import java.util.List;
import java.util.regex.Matcher;
import java.util.regex.Pattern;

/** Makes a program of the Java code in README.md: it checks each answer and each throw that stands behind a call. */
final class ReadmeCode {
    static final String PROGRAM = "ReadmeProgram";

    private static final Path README = Path.of("README.md");
    private static final Pattern BLOCK = Pattern.compile("^```java\n(.*?)^```$", Pattern.DOTALL | Pattern.MULTILINE);
    private static final Pattern ANSWER = Pattern.compile("^(\\S.*\\));  // (-?\\d+L?)(:.*)?$");
    private static final Pattern THROW = Pattern.compile("^(\\S.*\\));  // throws (\\w+)(:.*)?$");

    /** The blocks of Java code, in their order. */
    static List<String> blocks() throws IOException {
        List<String> blocks = new ArrayList<>();
        Matcher matcher = BLOCK.matcher(Files.readString(README));
        while (matcher.find()) {
            blocks.add(matcher.group(1));
        }
        return blocks;
    }

    /** The first argument is the directory for the program. */
    public static void main(String[] args) throws IOException {
        StringBuilder methods = new StringBuilder();
        StringBuilder calls = new StringBuilder();
        for (String block : blocks()) {
            if (block.startsWith("static ")) {
                methods.append(block);
            } else {
                block.lines().forEach(line -> calls.append(checked(line)).append('\n'));
            }
        }
        Files.writeString(Path.of(args[0], PROGRAM + ".java"), "import java.util.NoSuchElementException;\n"
                + "final class " + PROGRAM + " {\n" + methods
                + "public static void main(String[] args) {\n"
                + "Due due = new Due(\"" + PROGRAM + "\");\n" + calls + "due.end();\n}\n}\n");
    }

    private static String checked(String line) {
        Matcher answer = ANSWER.matcher(line);
        if (answer.matches()) {
            return "due.same(" + quoted(answer.group(1)) + ", " + answer.group(2) + ", " + answer.group(1) + ");";
        }
        Matcher thrown = THROW.matcher(line);
        if (thrown.matches()) {
            return "due.thrown(" + quoted(thrown.group(1)) + ", " + thrown.group(2) + ".class, () -> "
                    + thrown.group(1) + ");";
        }
        if (line.contains(";  //")) {
            throw new IllegalStateException("neither an answer nor a throw stands behind this call: " + line);
        }
        return line;
    }

    private static String quoted(String code) {
        return '"' + code.replace("\\", "\\\\").replace("\"", "\\\"") + '"';
    }
}
