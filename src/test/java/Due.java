import java.io.IOException;
import java.nio.charset.StandardCharsets;
import java.nio.file.Files;
import java.nio.file.Path;

/** Counts the answers of one test class that are not the ones that are due. */
final class Due {
    /** A call that may throw. */
    interface Call {
        long answer();
    }

    private static final Path DOCUMENT = Path.of("../shared/DOC.md");

    private final String test;
    // The words of the document, each run of white space as one space; null until a sentence is looked for.
    private String document;
    private String sentence = "";
    private int checks;
    private int wrong;

    Due(String test) {
        this.test = test;
    }

    /** Names the sentence that the checks from here on are for; the document must have it, word by word. */
    void sentence(String words) {
        sentence = "";
        holds("the document says: " + words, document().contains(words));
        sentence = " [" + words + "]";
    }

    private String document() {
        if (document == null) {
            try {
                document = Files.readString(DOCUMENT).replaceAll("\\s+", " ");
            } catch (IOException e) {
                document = "";
            }
        }
        return document;
    }

    private void fail(String what) {
        wrong++;
        System.out.println(test + ": " + what + sentence);
    }

    void same(String what, long want, long got) {
        checks++;
        if (got != want) {
            fail(what + " answered " + got + ", due is " + want);
        }
    }

    void holds(String what, boolean good) {
        checks++;
        if (!good) {
            fail("not so: " + what);
        }
    }

    /** Exactly this class must be thrown, none below or above it. */
    void thrown(String what, Class<? extends RuntimeException> want, Call call) {
        checks++;
        String got;
        try {
            got = "answered " + call.answer();
        } catch (RuntimeException e) {
            if (e.getClass() == want) {
                return;
            }
            got = "threw " + e.getClass().getName();
        }
        fail(what + " " + got + ", due is a throw of " + want.getName());
    }

    /** This setup text has no error, and tells no request. */
    void accepts(String text) {
        LineLeases x = new LineLeases();
        same(text, 0, load(x, text));
        same(text + " offset", -1, x.errorOffset());
    }

    /** The setup text has this error at the first byte behind good. */
    void refusesAfter(String good, int code, String bad) {
        LineLeases x = new LineLeases();
        same(good + bad, code, load(x, good + bad));
        same(good + bad + " offset", good.length(), x.errorOffset());
    }

    void end() {
        System.out.println(test + ": " + checks + " checks, " + wrong + " wrong");
        if (wrong != 0) {
            System.exit(1);
        }
    }

    /** Appends a text, padded with spaces to whole calls of append; tells the last answer. */
    static int append(LineLeases x, String text) {
        byte[] bytes = text.getBytes(StandardCharsets.ISO_8859_1);
        int answer = 0;
        for (int start = 0; start < bytes.length; start += 20) {
            answer = x.append(word(bytes, start), word(bytes, start + 4), word(bytes, start + 8),
                    word(bytes, start + 12), word(bytes, start + 16));
        }
        return answer;
    }

    private static int word(byte[] bytes, int start) {
        int word = 0;
        for (int i = start; i < start + 4; i++) {
            word = word << 8 | (i < bytes.length ? bytes[i] & 0xff : ' ');
        }
        return word;
    }

    static int load(LineLeases x, String text) {
        append(x, text);
        return x.load(text.length());
    }

    /**
     * The fine that this expression makes for a request of line 1 that has waited 2 ticks, 20 of its work being left,
     * while its holder holds 3 open requests.
     */
    static int fineOf(String expression) {
        LineLeases x = loaded("lines;handler 9999 5;line 0 9 0 0;line 0 9 0 0;raise 0 0 90;raise 1 0 20;raise 0 1 30;"
                + "patience 2;fine " + expression + ";");
        x.pass(3);
        return x.line(1, 2);
    }

    /** The holders of the first requests, as request(int, 4) tells them. */
    void holders(String when, LineLeases x, int... want) {
        for (int i = 0; i < want.length; i++) {
            same(when + ": holder of request " + i, want[i], x.request(i, 4));
        }
    }

    /** An object with this setup text at 9999, the latest time that there is. */
    static LineLeases atTheLatestTime(String text) {
        LineLeases x = loaded(text);
        for (int i = 0; i < 49; i++) {
            x.pass(200);
        }
        x.pass(199);
        return x;
    }

    /** A new object with this setup text, which must have no error. */
    static LineLeases loaded(String text) {
        LineLeases x = new LineLeases();
        int answer = load(x, text);
        if (answer < 0) {
            throw new AssertionError("error " + answer + " at " + x.errorOffset() + " in: " + text);
        }
        return x;
    }
}
