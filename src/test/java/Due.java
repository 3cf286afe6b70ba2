import java.nio.charset.StandardCharsets;

/** Counts the answers of one test class that are not the ones that are due. */
final class Due {
    /** A call that may throw. */
    interface Call {
        long answer();
    }

    private final String test;
    private int checks;
    private int wrong;

    Due(String test) {
        this.test = test;
    }

    void same(String what, long want, long got) {
        checks++;
        if (got != want) {
            wrong++;
            System.out.println(test + ": " + what + " answered " + got + ", due is " + want);
        }
    }

    void holds(String what, boolean good) {
        checks++;
        if (!good) {
            wrong++;
            System.out.println(test + ": not so: " + what);
        }
    }

    /** Exactly this class must be thrown, none below or above it. */
    void thrown(String what, Class<? extends RuntimeException> want, Call call) {
        checks++;
        String got;
        try {
            got = "answered " + call.answer();
        } catch (RuntimeException e) {
            if (e.getClass() == want) {
                return;
            }
            got = "threw " + e.getClass().getName();
        }
        wrong++;
        System.out.println(test + ": " + what + " " + got + ", due is a throw of " + want.getName());
    }

    void end() {
        System.out.println(test + ": " + checks + " checks, " + wrong + " wrong");
        if (wrong != 0) {
            System.exit(1);
        }
    }

    /** Appends a text, padded with spaces to whole calls of append; tells the last answer. */
    static int append(LineLeases x, String text) {
        byte[] bytes = text.getBytes(StandardCharsets.ISO_8859_1);
        int answer = 0;
        for (int start = 0; start < bytes.length; start += 20) {
            answer = x.append(word(bytes, start), word(bytes, start + 4), word(bytes, start + 8),
                    word(bytes, start + 12), word(bytes, start + 16));
        }
        return answer;
    }

    private static int word(byte[] bytes, int start) {
        int word = 0;
        for (int i = start; i < start + 4; i++) {
            word = word << 8 | (i < bytes.length ? bytes[i] & 0xff : ' ');
        }
        return word;
    }

    static int load(LineLeases x, String text) {
        append(x, text);
        return x.load(text.length());
    }

    /** A new object with this setup text, which must have no error. */
    static LineLeases loaded(String text) {
        LineLeases x = new LineLeases();
        int answer = load(x, text);
        if (answer < 0) {
            throw new AssertionError("error " + answer + " at " + x.errorOffset() + " in: " + text);
        }
        return x;
    }
}
