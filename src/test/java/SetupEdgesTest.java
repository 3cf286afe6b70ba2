/** The edges of promises 1 to 4 and of the setup text: a test for each sentence of the document that names one. */
final class SetupEdgesTest {
    private static final Due due = new Due("SetupEdgesTest");

    private static final int SPACES = 0x20202020;

    private static final String HANDLERS = "lines;handler 1 1;handler 1 1;handler 1 1;handler 1 1;handler 1 1;"
            + "handler 1 1;";

    public static void main(String[] args) {
        TheNewObject.test();
        TheBuffer.test();
        TheLoad.test();
        TheOffset.test();
        TheTokens.test();
        TheGrammar.test();
        TheRanges.test();
        TheErrors.test();
        codes();
        due.end();
    }

    private static void codes() {
        due.sentence("`SYNTAX_ERROR = -2`: Error code of load: the text does not follow the grammar.");
        due.refusesAfter("lines;wage ", -2, "held;");
        due.same("the constant", -2, LineLeases.SYNTAX_ERROR);
        due.sentence("`OUT_OF_RANGE = -3`: Error code of load: a number is not allowed.");
        due.refusesAfter("lines;wage ", -3, "100;");
        due.same("the constant", -3, LineLeases.OUT_OF_RANGE);
        due.sentence("`REPEATED = -4`: Error code of load: a tenant is told twice for a line.");
        due.refusesAfter("lines;handler 1 1;line 0 1 0 0 ", -4, "0;");
        due.same("the constant", -4, LineLeases.REPEATED);
        due.sentence("`TOO_MANY = -5`: Error code of load: too many handlers, lines, requests or tenants.");
        due.refusesAfter(HANDLERS, -5, "handler 1 1;");
        due.same("the constant", -5, LineLeases.TOO_MANY);
        due.sentence("`TOO_DEEP = -6`: Error code of load: parentheses are nested too deeply.");
        due.refusesAfter("lines;fine ((((", -6, "(1)))));");
        due.same("the constant", -6, LineLeases.TOO_DEEP);
    }

    private static String spaces(int count) {
        return " ".repeat(count);
    }

    /** A text of this length with one handler, whose last byte is its semicolon. */
    private static String textOf(int length) {
        return "lines;" + spaces(length - 18) + "handler 7 3;";
    }

    private static final class TheNewObject {
        private static final String NEW = "Creates an object without handlers and lines, with an empty input buffer.";

        static void test() {
            noHandlersAndLines();
            emptyBuffer();
        }

        private static void noHandlersAndLines() {
            due.sentence(NEW);
            LineLeases x = new LineLeases();
            for (int what = 0; what <= 9; what++) {
                due.same("state(" + what + ")", 0, x.state(what));
            }
            due.thrown("handler(0, 0)", IndexOutOfBoundsException.class, () -> x.handler(0, 0));
            due.thrown("line(0, 0)", IndexOutOfBoundsException.class, () -> x.line(0, 0));
            due.thrown("request(0, 0)", IndexOutOfBoundsException.class, () -> x.request(0, 0));
            due.same("errorOffset()", -1, x.errorOffset());
            due.same("undo()", -1, x.undo());
            due.same("checksum()", 0, x.checksum());
        }

        private static void emptyBuffer() {
            due.sentence(NEW);
            LineLeases x = new LineLeases();
            due.thrown("load(1)", IllegalArgumentException.class, () -> x.load(1));
            due.same("load(0)", LineLeases.SYNTAX_ERROR, x.load(0));
            due.same("the first append", 20, x.append(0, 0, 0, 0, 0));
            due.same("an append of another object", 20, new LineLeases().append(0, 0, 0, 0, 0));
        }
    }

    private static final class TheBuffer {
        static void test() {
            mostSignificantByteFirst();
            eachByte();
            theNewLength();
            at700Bytes();
            refusedAppend();
            emptyAgain();
        }

        private static final String BYTES = "Appends 20 bytes to the input buffer: the 4 bytes of each argument, the "
                + "most significant byte first.";

        private static void mostSignificantByteFirst() {
            due.sentence(BYTES);
            for (int at = 0; at < 20; at++) {
                LineLeases x = new LineLeases();
                int[] w = {SPACES, SPACES, SPACES, SPACES, SPACES};
                int shift = 8 * (3 - at % 4);
                w[at / 4] = SPACES & ~(0xff << shift) | '?' << shift;
                x.append(w[0], w[1], w[2], w[3], w[4]);
                due.same("a byte", LineLeases.SYNTAX_ERROR, x.load(20));
                due.same("byte " + at, at, x.errorOffset());
            }
            LineLeases x = new LineLeases();
            // "line" "s;ha" "ndle" "r 12" " 3; "
            x.append(0x6c696e65, 0x733b6861, 0x6e646c65, 0x72203132, 0x20333b20);
            due.same("a text", 0, x.load(20));
            due.same("its purse", 12, x.handler(0, 0));
            due.same("its speed", 3, x.handler(0, 1));
        }

        private static void eachByte() {
            due.sentence(BYTES);
            // The sign of an int is a bit of its first byte: 0xa0 and 0x20 differ, as do 0xec and 0x6c.
            LineLeases x = new LineLeases();
            x.append(0x6c696e65, 0x733bffff, -1, -1, -1);
            due.same("only bytes 255 follow", LineLeases.SYNTAX_ERROR, x.load(7));
            due.same("they are read as they are", 6, x.errorOffset());
            x.append(0x6c696e65, 0x733b8020, SPACES, SPACES, SPACES);
            due.same("a byte 128", LineLeases.SYNTAX_ERROR, x.load(20));
            due.same("it is no byte 0", 6, x.errorOffset());
            x.append(0xec696e65, 0x733b2020, SPACES, SPACES, SPACES);
            due.same("a byte 236 for l", LineLeases.SYNTAX_ERROR, x.load(20));
            due.same("it is no letter", 0, x.errorOffset());
        }

        private static void theNewLength() {
            due.sentence("Returns the new length of the buffer; -1 if it would exceed 700 bytes, and the buffer is "
                    + "unchanged then.");
            LineLeases x = new LineLeases();
            for (int length = 20; length <= 700; length += 20) {
                due.same("append", length, x.append(SPACES, SPACES, SPACES, SPACES, SPACES));
            }
            due.same("beyond 700", -1, x.append(SPACES, SPACES, SPACES, SPACES, SPACES));
            due.same("still", -1, x.append(SPACES, SPACES, SPACES, SPACES, SPACES));
        }

        private static void at700Bytes() {
            due.sentence("The setup text is read from an input buffer of at most 700 bytes.");
            LineLeases x = new LineLeases();
            due.same("700 bytes", 700, Due.append(x, textOf(700)));
            due.same("all of them are read", 0, x.load(700));
            due.same("the last statement", 7, x.handler(0, 0));
            Due.append(x, textOf(700));
            due.same("one less: the text ends too early", LineLeases.SYNTAX_ERROR, x.load(699));
            due.same("at its length", 699, x.errorOffset());
            Due.append(x, "lines;" + spaces(693) + "?");
            due.same("an error at the last byte", LineLeases.SYNTAX_ERROR, x.load(700));
            due.same("its offset", 699, x.errorOffset());
            // Most of these bytes are a token each.
            String begin = "lines;handler 9999 1;line 0 9 0 0;raise 0 0 99;raise 0 0 99;fine ";
            int sums = (700 - begin.length() - 2) / 2;
            Due.append(x, begin + spaces((700 - begin.length()) % 2) + "1" + "+1".repeat(sums) + ";");
            due.same("a long expression", 2, x.load(700));
            due.same("its value", sums + 1, x.finesIn(6));
            due.same("the buffer is empty then", 20, x.append(0, 0, 0, 0, 0));
        }

        private static void refusedAppend() {
            due.sentence("-1 if it would exceed 700 bytes, and the buffer is unchanged then.");
            LineLeases x = new LineLeases();
            Due.append(x, textOf(700));
            due.same("an append too many", -1, x.append(0x3f3f3f3f, 0x3f3f3f3f, 0x3f3f3f3f, 0x3f3f3f3f, 0x3f3f3f3f));
            due.thrown("the length is 700 still", IllegalArgumentException.class, () -> x.load(701));
            due.same("and the text is", 0, x.load(700));
            due.same("with its handler", 3, x.handler(0, 1));
        }

        private static void emptyAgain() {
            due.sentence("The input buffer is empty afterwards, also if the text has an error.");
            LineLeases x = new LineLeases();
            Due.append(x, textOf(700));
            x.load(700);
            due.thrown("nothing is left behind a load", IllegalArgumentException.class, () -> x.load(1));
            due.same("an append behind a load", 20, x.append(SPACES, SPACES, SPACES, SPACES, SPACES));
            x.load(0);
            due.thrown("nothing is left behind an error", IllegalArgumentException.class, () -> x.load(1));
            Due.append(x, textOf(40));
            x.load(18);
            due.thrown("nothing is left of the bytes that were not read", IllegalArgumentException.class,
                    () -> x.load(1));
            due.same("an append behind them", 20, x.append(SPACES, SPACES, SPACES, SPACES, SPACES));
        }
    }

    private static final class TheLoad {
        static void test() {
            theFirstBytes();
            replacesAllData();
            replacesWhatWasPredicted();
            replacesWhatHadAnError();
            anErrorLeavesAllOtherData();
            anEmptyText();
            theNumberOfRequests();
            lengthsThatThrow();
            theBufferOfAThrow();
        }

        private static void theFirstBytes() {
            due.sentence(REPLACES);
            String text = "lines;handler 1 1;handler 2 2;handler 3 3;";
            int[] lengths = {6, 18, 30, 42};
            for (int count = 0; count < lengths.length; count++) {
                LineLeases x = new LineLeases();
                Due.append(x, text);
                due.same("load(" + lengths[count] + ")", 0, x.load(lengths[count]));
                due.same("handlers of it", count, x.state(1));
                Due.append(x, text);
                due.same("one byte less", LineLeases.SYNTAX_ERROR, x.load(lengths[count] - 1));
                due.same("its offset", lengths[count] - 1, x.errorOffset());
            }
            LineLeases x = new LineLeases();
            Due.append(x, "lines;handler 12 34;");
            due.same("a number may be cut", LineLeases.SYNTAX_ERROR, x.load(18));
            Due.append(x, "lines;wage 12345;");
            due.same("a number that is too great if it is whole", LineLeases.SYNTAX_ERROR, x.load(13));
            due.same("its offset", 13, x.errorOffset());
        }

        private static final String REPLACES = "Reads the first bytes of the input buffer as a setup text and "
                + "replaces all data by it; the time is 0.";
        private static final String OLD = "lines;handler 900 9;handler 0 2;handler 9 1;line 5 2 30 2 1;line 5 9 300 0;"
                + "raise 0 0 9;raise 0 0 9;raise 0 0 9;raise 1 0 99;raise 1 0 99;patience 1;window 99;storm 1;"
                + "period 1;wage 9;fine 3;";
        private static final String NEW = "lines;handler 40 3;handler 41 2;line 6 7 8 0 1;line 5 4 3 1;raise 0 2 12;"
                + "raise 1 3 9;raise 1 3 30;raise 1 3 30;";

        private static void replacesAllData() {
            due.sentence(REPLACES);
            LineLeases x = Due.loaded(OLD);
            x.pass(20);
            x.raise(0, 5);
            x.fund(0, 44);
            isAsNew(x);
        }

        private static void replacesWhatWasPredicted() {
            due.sentence(REPLACES);
            LineLeases x = Due.loaded(OLD);
            x.finesIn(3);
            isAsNew(x);
            LineLeases y = Due.loaded(OLD);
            y.pass(1);
            y.endsAt(4);
            isAsNew(y);
            LineLeases z = Due.loaded(OLD);
            z.bankruptIn(2);
            isAsNew(z);
            LineLeases w = Due.loaded(OLD);
            w.advise(0);
            isAsNew(w);
        }

        private static void replacesWhatHadAnError() {
            due.sentence(REPLACES);
            LineLeases x = new LineLeases();
            due.same("an error at the end", LineLeases.SYNTAX_ERROR, Due.load(x, OLD + "?"));
            isAsNew(x);
            LineLeases y = Due.loaded("lines;");
            due.same("an error in the fine", LineLeases.SYNTAX_ERROR, Due.load(y, OLD.substring(0,
                    OLD.length() - 1) + "*"));
            isAsNew(y);
        }

        /** Loads the new text; all answers must be as in an object that never had another one. */
        private static void isAsNew(LineLeases x) {
            due.same("requests", 4, Due.load(x, NEW));
            LineLeases y = Due.loaded(NEW);
            due.same("the time", 0, x.state(0));
            for (int tick = 0; tick < 30; tick++) {
                due.same("as in a new object at " + tick, y.checksum(), x.checksum());
                due.same("fines at " + tick, y.finesIn(tick), x.finesIn(tick));
                x.pass(1);
                y.pass(1);
            }
        }

        private static void anErrorLeavesAllOtherData() {
            due.sentence("An error leaves all other data unchanged.");
            LineLeases x = Due.loaded("lines;handler 90 1;line 5 2 30 0;raise 0 0 9;raise 0 0 9;raise 0 5 9;patience 2;"
                    + "window 3;storm 4;period 2;wage 2;fine 3;");
            x.pass(3);
            long before = x.checksum();
            int fines = x.finesIn(50);
            String[] errors = {"", "lines;handler 5 5;wage 5", "lines;patience 1;fine 1;handler 10000 1;",
                    "lines;handler 1 1;line 9 9 9 0 0;", HANDLERS + "handler 1 1;", "lines;handler 7 7;"
                            + "fine (((((1)))));"};
            int[] codes = {-2, -2, -3, -4, -5, -6};
            for (int i = 0; i < errors.length; i++) {
                due.same("error of: " + errors[i], codes[i], Due.load(x, errors[i]));
                due.same("data behind: " + errors[i], before, x.checksum());
                due.same("fines behind: " + errors[i], fines, x.finesIn(50));
            }
            due.same("and no error is a change", 1, x.undo());
        }

        private static void anEmptyText() {
            due.sentence("An empty text has a SYNTAX_ERROR.");
            LineLeases x = new LineLeases();
            due.same("of an empty buffer", LineLeases.SYNTAX_ERROR, x.load(0));
            due.same("its offset", 0, x.errorOffset());
            Due.append(x, "lines;");
            due.same("of another buffer", LineLeases.SYNTAX_ERROR, x.load(0));
            due.same("its offset", 0, x.errorOffset());
            Due.append(x, spaces(20));
            due.same("of spaces", LineLeases.SYNTAX_ERROR, x.load(20));
            due.same("its offset", 20, x.errorOffset());
        }

        private static void theNumberOfRequests() {
            due.sentence("Returns the number of requests; or the error code of the first error.");
            due.same("0", 0, Due.load(new LineLeases(), "lines;"));
            due.same("1", 1, Due.load(new LineLeases(), "lines;line 0 1 0;raise 0 999 1;"));
            due.same("60", 60, Due.load(new LineLeases(), "lines;line 0 1 0;" + "raise0 0 1;".repeat(60)));
            due.refusesAfter("lines;wage ", LineLeases.OUT_OF_RANGE, "100;handler ?;");
        }

        private static final String THROWN = "if length is negative or greater than the length of the buffer;"
                + " the buffer is unchanged then";

        private static void lengthsThatThrow() {
            due.sentence(THROWN);
            for (int length = 0; length <= 700; length += 140) {
                int bytes = length;
                LineLeases x = new LineLeases();
                Due.append(x, spaces(length));
                for (int bad : new int[] {-1, bytes + 1, bytes + 20, Integer.MIN_VALUE, Integer.MAX_VALUE}) {
                    due.thrown("load(" + bad + ") of " + bytes, IllegalArgumentException.class, () -> x.load(bad));
                }
                due.same("load of just all", LineLeases.SYNTAX_ERROR, x.load(bytes));
                due.same("reads all", bytes, x.errorOffset());
            }
        }

        private static void theBufferOfAThrow() {
            due.sentence(THROWN);
            LineLeases x = new LineLeases();
            Due.append(x, "lines;handler 12 13;");
            due.thrown("load(21)", IllegalArgumentException.class, () -> x.load(21));
            due.thrown("load(-1)", IllegalArgumentException.class, () -> x.load(-1));
            due.same("the next append", 40, Due.append(x, "handler 14 15;"));
            due.same("all is there", 0, x.load(34));
            due.same("the first handler", 13, x.handler(0, 1));
            due.same("the second handler", 15, x.handler(1, 1));
        }
    }

    private static final class TheOffset {
        private static final String OFFSET = "Returns the offset of the error found by the latest call of load that "
                + "did not throw; -1 if it found none or if there was no such call.";

        static void test() {
            due.sentence(OFFSET);
            LineLeases x = new LineLeases();
            due.same("no call", -1, x.errorOffset());
            due.thrown("load(1)", IllegalArgumentException.class, () -> x.load(1));
            due.same("no call that did not throw", -1, x.errorOffset());
            x.load(0);
            due.same("an error at 0", 0, x.errorOffset());
            Due.load(x, "lines;?");
            due.same("the latest error", 6, x.errorOffset());
            due.thrown("load(1)", IllegalArgumentException.class, () -> x.load(1));
            due.same("a call that throws does not count", 6, x.errorOffset());
            Due.load(x, "lines;");
            due.same("no error", -1, x.errorOffset());
            due.thrown("load(-1)", IllegalArgumentException.class, () -> x.load(-1));
            due.same("still none", -1, x.errorOffset());
            due.same("an error of the whole buffer", LineLeases.SYNTAX_ERROR, Due.load(x, spaces(700)));
            due.same("its offset", 700, x.errorOffset());
        }
    }

    private static final class TheTokens {
        private static final String SPACE = "Spaces (byte 32) may precede any token and may follow the last one;"
                + " a word and a number side by side need none between them.";

        static void test() {
            runsOfDigits();
            greatNumbers();
            runsOfLetters();
            asLongAsPossible();
            spacesBeforeTokens();
            spacesBehindTheLastOne();
            wordAndNumber();
            noOtherSeparator();
        }

        private static void runsOfDigits() {
            due.sentence("A number is a run of decimal digits, of any length (leading zeros do not matter)");
            String zeros = "0".repeat(660);
            LineLeases x = Due.loaded("lines;handler " + zeros + "12 1;");
            due.same("660 zeros and 12", 12, x.handler(0, 0));
            Due.load(x, "lines;handler " + zeros + " 0001;");
            due.same("660 zeros", 0, x.handler(0, 0));
            due.same("one with three zeros", 1, x.handler(0, 1));
            Due.load(x, "lines;handler 0009999 00020;");
            due.same("the greatest purse with zeros", 9999, x.handler(0, 0));
            due.same("the greatest speed with zeros", 20, x.handler(0, 1));
        }

        private static void greatNumbers() {
            due.sentence("A number is a run of decimal digits, of any length (leading zeros do not matter)");
            String[] great = {"10000", "65537", "100001", "2147483648", "4294967296", "4294967297",
                    "18446744073709551617",
                    "1" + "0".repeat(670), "9".repeat(670), "0".repeat(300) + "1" + "0".repeat(300)};
            for (String number : great) {
                due.refusesAfter("lines;handler ", LineLeases.OUT_OF_RANGE, number + " 1;");
            }
        }

        private static void runsOfLetters() {
            due.sentence("a word is a run of the letters a to z.");
            for (String bad : new String[] {"`", "{", "A", "Z", "_", "@", "[", "\u00e9"}) {
                due.refusesAfter("lines;wage", LineLeases.SYNTAX_ERROR, bad + " 1;");
                due.refusesAfter("", LineLeases.SYNTAX_ERROR, bad + "lines;");
            }
            due.refusesAfter("", LineLeases.SYNTAX_ERROR, "Lines;");
            due.refusesAfter("", LineLeases.SYNTAX_ERROR, "LINES;");
            due.refusesAfter("lines;", LineLeases.SYNTAX_ERROR, "Wage 1;");
            due.refusesAfter("lines;", LineLeases.SYNTAX_ERROR, "zwage 1;");
            due.refusesAfter("lines;", LineLeases.SYNTAX_ERROR, "wagea 1;");
        }

        private static void asLongAsPossible() {
            due.sentence("Each run is as long as possible.");
            due.refusesAfter("", LineLeases.SYNTAX_ERROR, "lineswage;");
            due.refusesAfter("", LineLeases.SYNTAX_ERROR, "line s;");
            due.refusesAfter("lines;", LineLeases.SYNTAX_ERROR, "handlers 1 1;");
            due.refusesAfter("lines;", LineLeases.SYNTAX_ERROR, "hand ler 1 1;");
            due.refusesAfter("lines;", LineLeases.SYNTAX_ERROR, "lines 1 1 1;");
            due.refusesAfter("lines;", LineLeases.SYNTAX_ERROR, "lin 1 1 1;");
            due.refusesAfter("lines;fine ", LineLeases.SYNTAX_ERROR, "leftheld;");
            due.refusesAfter("lines;fine ", LineLeases.SYNTAX_ERROR, "lef;");
            due.refusesAfter("lines;handler 11", LineLeases.SYNTAX_ERROR, ";");
            due.refusesAfter("lines;wage 1 ", LineLeases.SYNTAX_ERROR, "1;");
            due.refusesAfter("lines;wage ", LineLeases.OUT_OF_RANGE, "111;");
        }

        private static final String[] TOKENS = {"lines", ";", "handler", "10", "2", ";", "line", "3", "4", "50", "0",
                ";",
                "raise", "0", "6", "7", ";", "fine", "(", "left", "+", "1", ")", "*", "held", "-", "waited", "/", "2",
                        ";"};

        private static void spacesBeforeTokens() {
            due.sentence(SPACE);
            long want = Due.loaded(String.join(" ", TOKENS)).checksum();
            for (int more = 0; more < TOKENS.length; more++) {
                StringBuilder text = new StringBuilder();
                for (int i = 0; i < TOKENS.length; i++) {
                    boolean numbers = i > 0 && isDigit(TOKENS[i]) && isDigit(TOKENS[i - 1]);
                    text.append(i == more ? spaces(500) : numbers ? " " : "").append(TOKENS[i]);
                }
                due.same("500 spaces before token " + more, want, Due.loaded(text.toString()).checksum());
            }
        }

        private static boolean isDigit(String token) {
            return token.charAt(0) >= '0' && token.charAt(0) <= '9';
        }

        private static void spacesBehindTheLastOne() {
            due.sentence(SPACE);
            for (int count : new int[] {0, 1, 2, 694}) {
                due.accepts("lines;" + spaces(count));
                due.accepts(spaces(count) + "lines;");
            }
            due.refusesAfter("lines" + spaces(695), LineLeases.SYNTAX_ERROR, "");
            due.refusesAfter(spaces(695), LineLeases.SYNTAX_ERROR, "line;");
        }

        private static void wordAndNumber() {
            due.sentence(SPACE);
            LineLeases x = Due.loaded("lines;handler12 3;line4 5 6 0;raise0 7 8;patience3;window4;storm5;period6;"
                    + "wage7;fine8;");
            due.same("handler12", 12, x.handler(0, 0));
            due.same("line4", 4, x.line(0, 0));
            due.same("raise0", 7, x.request(0, 1));
            due.refusesAfter("lines;fine 8", LineLeases.SYNTAX_ERROR, "left;");
            due.refusesAfter("lines;fine left", LineLeases.SYNTAX_ERROR, "8;");
            due.refusesAfter("lines", LineLeases.SYNTAX_ERROR, "0;");
            due.refusesAfter("", LineLeases.SYNTAX_ERROR, "0lines;");
        }

        private static void noOtherSeparator() {
            due.sentence("No other byte separates tokens.");
            for (int b = 0; b < 256; b++) {
                boolean space = b == ' ';
                LineLeases x = new LineLeases();
                int got = Due.load(x, "lines;handler 1" + (char) b + "1;");
                boolean digit = b >= '0' && b <= '9';
                due.same("byte " + b + " between numbers", space ? 0 : LineLeases.SYNTAX_ERROR, got);
                due.same("byte " + b + " between numbers: offset", space ? -1 : digit ? 17 : 15, x.errorOffset());
                got = Due.load(x, (char) b + "lines;");
                due.same("byte " + b + " before a text", space ? 0 : LineLeases.SYNTAX_ERROR, got);
                due.same("byte " + b + " before a text: offset", space ? -1 : 0, x.errorOffset());
                got = Due.load(x, "lines;" + (char) b);
                due.same("byte " + b + " behind a text", space ? 0 : LineLeases.SYNTAX_ERROR, got);
                due.same("byte " + b + " behind a text: offset", space ? -1 : 6, x.errorOffset());
            }
        }
    }

    private static final class TheGrammar {
        private static final String SYNTAX = "SYNTAX_ERROR: a token or byte that the grammar does not allow here, at "
                + "its first byte; the end of the text, at its length, if the text ends too early; a second statement "
                + "of a kind that may occur once, at its first letter.";

        static void test() {
            eachTokenIsNeeded();
            tokensThatAreNotAllowed();
            theTextEndsTooEarly();
            statementsThatMayOccurOnce();
            statementsThatMayOccurOften();
            factors();
            operators();
        }

        private static final String BEFORE = "lines;handler 9 1;line 0 1 0;";
        private static final String[] STATEMENTS = {"handler 1 2", "line 1 2 3", "line 1 2 3 0", "raise 0 1 2",
                "patience 1",
                "window 1", "storm 1", "period 1", "wage 1", "fine 1", "fine line", "fine ( 1 )", "fine 1 + 2",
                "fine 1 * 2", "fine 1 - 2", "fine 1 / 2"};

        private static void eachTokenIsNeeded() {
            due.sentence("statement = \"handler\" number number | \"line\" number number number { number } | "
                    + "\"raise\" number number number | \"patience\" number | \"window\" number | \"storm\" number | "
                    + "\"period\" number | \"wage\" number | \"fine\" sum");
            for (String statement : STATEMENTS) {
                due.same(statement, statement.startsWith("raise") ? 1 : 0, Due.load(new LineLeases(),
                        BEFORE + statement + ";"));
                String[] tokens = statement.split(" ");
                StringBuilder good = new StringBuilder(BEFORE);
                for (int i = 0; i < tokens.length; i++) {
                    boolean mayEnd = statement.equals("line 1 2 3 "
                            + "0") && i == 4 || statement.startsWith("fine") && i % 2 == 0
                            && i > 0 && !statement.contains("(");
                    if (!mayEnd) {
                        due.refusesAfter(good + " ", LineLeases.SYNTAX_ERROR, ";");
                    }
                    if (i > 0) {
                        due.refusesAfter(good + " ", LineLeases.SYNTAX_ERROR, "");
                    }
                    due.refusesAfter(good + " ", LineLeases.SYNTAX_ERROR, "?");
                    due.refusesAfter(good + " ", LineLeases.SYNTAX_ERROR, "lines");
                    good.append(' ').append(tokens[i]);
                }
                due.refusesAfter(good + " ", LineLeases.SYNTAX_ERROR, "");
                due.refusesAfter(good + " ", LineLeases.SYNTAX_ERROR, "wage 2;");
                due.refusesAfter(good + " ", LineLeases.SYNTAX_ERROR, "(");
                due.refusesAfter(good + " ; ", LineLeases.SYNTAX_ERROR, ";");
            }
        }

        private static void tokensThatAreNotAllowed() {
            due.sentence(SYNTAX);
            for (String bad : new String[] {"5", "(", ")", "+", "-", "*", "/", "left", "held", "waited", "x", "?"}) {
                due.refusesAfter("", LineLeases.SYNTAX_ERROR, bad);
                due.refusesAfter("lines ", LineLeases.SYNTAX_ERROR, bad);
                due.refusesAfter("lines ; ", LineLeases.SYNTAX_ERROR, bad);
            }
            due.refusesAfter("", LineLeases.SYNTAX_ERROR, ";");
            due.refusesAfter("lines ; ", LineLeases.SYNTAX_ERROR, ";");
            for (String word : new String[] {"handler 1 1", "line 0 1 0", "wage 1", "fine 1"}) {
                due.refusesAfter("", LineLeases.SYNTAX_ERROR, word + ";");
                due.refusesAfter("lines ", LineLeases.SYNTAX_ERROR, word + ";");
            }
            due.refusesAfter("lines ", LineLeases.SYNTAX_ERROR, "lines;");
            due.refusesAfter("lines ; ", LineLeases.SYNTAX_ERROR, "lines;");
            for (String number : new String[] {"-1", "+1", "(1)", "left", "x", ".5", ",", "0x1"}) {
                int good = number.equals("0x1") ? 1 : 0;
                due.refusesAfter("lines;handler " + number.substring(0, good), LineLeases.SYNTAX_ERROR,
                        number.substring(good) + " 1;");
                due.refusesAfter("lines;storm " + number.substring(0, good), LineLeases.SYNTAX_ERROR,
                        number.substring(good) + ";");
            }
        }

        private static void theTextEndsTooEarly() {
            due.sentence(SYNTAX);
            String text = "lines ; handler 10 2 ; line 3 4 50 0 ; raise 0 6 7 ; fine ( left + 1 ) * held ; wage 3 ;";
            int ends = 0;
            for (int length = 0; length <= text.length(); length++) {
                LineLeases x = new LineLeases();
                Due.append(x, text);
                boolean whole = text.substring(0, length).strip().endsWith(";");
                ends += whole ? 1 : 0;
                int got = x.load(length);
                // A part of a word is an error at its first letter, but for line, which begins lines.
                int first = length;
                while (first > 0 && Character.isLetter(text.charAt(first - 1))) {
                    first--;
                }
                boolean part = first < length && length < text.length() && Character.isLetter(text.charAt(length))
                        && !(first > 0 && text.substring(first, length).equals("line"));
                if (whole) {
                    due.holds("whole at " + length, got >= 0);
                    due.same("whole at " + length, -1, x.errorOffset());
                } else {
                    due.same("cut at " + length, LineLeases.SYNTAX_ERROR, got);
                    due.same("cut at " + length + ": offset", part ? first : length, x.errorOffset());
                }
            }
            due.same("ends of statements, each with and without the space behind it", 11, ends);
        }

        private static void statementsThatMayOccurOnce() {
            due.sentence("The statements patience, window, storm, period, wage and fine may each occur once.");
            String[] words = {"patience", "window", "storm", "period", "wage", "fine"};
            StringBuilder all = new StringBuilder("lines;");
            for (String word : words) {
                due.refusesAfter("lines;" + word + " 1; ", LineLeases.SYNTAX_ERROR, word + " 1;");
                due.refusesAfter("lines;" + word + " 1;handler 1 1;", LineLeases.SYNTAX_ERROR, word + " 1;");
                due.refusesAfter("lines;" + word + " 1;", LineLeases.SYNTAX_ERROR, word + " 10000;");
                due.refusesAfter("lines;" + word + " 1;", LineLeases.SYNTAX_ERROR, word);
                all.append(word).append(" 1;");
                due.accepts(all.toString());
            }
            for (String word : words) {
                due.refusesAfter(all.toString(), LineLeases.SYNTAX_ERROR, word + " 1;");
            }
            // Each once in each text: what one text told does not count for the next one.
            LineLeases x = new LineLeases();
            due.same("once", 0, Due.load(x, all.toString()));
            due.same("once again", 0, Due.load(x, all.toString()));
            due.same("twice", LineLeases.SYNTAX_ERROR, Due.load(x, all + "fine 1;"));
            due.same("and once again", 0, Due.load(x, all.toString()));
        }

        private static void statementsThatMayOccurOften() {
            due.sentence("setup = \"lines\" \";\" { statement \";\" }");
            due.accepts("lines;");
            due.accepts("lines;handler 1 1;handler 1 1;");
            due.accepts("lines;line 0 1 0;wage 1;handler 1 1;fine 1;line 0 1 0 0;storm 1;");
            due.same("raises between others", 2, Due.load(new LineLeases(), "lines;line 0 1 0;raise 0 1 1;wage 1;"
                    + "raise 0 1 1;"));
        }

        private static void factors() {
            due.sentence("factor = number | \"line\" | \"left\" | \"held\" | \"waited\" | \"(\" sum \")\"");
            for (String factor : new String[] {"0", "9999", "line", "left", "held", "waited", "(1)", "(1-2)"}) {
                due.accepts("lines;fine " + factor + ";");
                due.accepts("lines;fine 1*" + factor + ";");
                due.refusesAfter("lines;fine " + factor + " ", LineLeases.SYNTAX_ERROR, "(1);");
                due.refusesAfter("lines;fine " + factor + " ", LineLeases.SYNTAX_ERROR, "line;");
                due.refusesAfter("lines;fine " + factor + " ", LineLeases.SYNTAX_ERROR, "3;");
                due.refusesAfter("lines;fine " + factor, LineLeases.SYNTAX_ERROR, ");");
                due.refusesAfter("lines;fine (" + factor, LineLeases.SYNTAX_ERROR, ";");
            }
            for (String bad : new String[] {"", "()", "lines", "handler", "raise", "wage", "fine", "x", "-1", "+1",
                    "*1", "/1"}) {
                String good = bad.equals("()") ? "(" : "";
                due.refusesAfter("lines;fine " + good, LineLeases.SYNTAX_ERROR, bad.substring(good.length()) + ";");
            }
        }

        private static void operators() {
            due.sentence("sum = term { ( \"+\" | \"-\" ) term } term = factor { ( \"*\" | \"/\" ) factor }");
            for (String operator : new String[] {"+", "-", "*", "/"}) {
                due.accepts("lines;fine 1" + operator + "2" + operator + "3;");
                due.refusesAfter("lines;fine 1" + operator, LineLeases.SYNTAX_ERROR, ";");
                due.refusesAfter("lines;fine 1" + operator, LineLeases.SYNTAX_ERROR, operator + "2;");
                due.refusesAfter("lines;fine (1" + operator, LineLeases.SYNTAX_ERROR, ");");
                due.refusesAfter("lines;fine ", LineLeases.SYNTAX_ERROR, operator + ";");
            }
            for (String bad : new String[] {"%", "^", "=", "<", ",", "."}) {
                due.refusesAfter("lines;fine 1", LineLeases.SYNTAX_ERROR, bad + "2;");
            }
        }
    }

    private static final class TheRanges {
        private static final String NUMBERS = "The numbers of handler are its purse and its speed;"
                + " those of line its rent, its limit, its device purse, and then its tenants, handlers that were "
                + "told before; those of raise a line that was told before, a time (0 to 999) and the work.";
        private static final String RULES = "patience is 1 to 99 (5 without it), window 1 to 99 (10), storm 0 to 999 "
                + "(10), period 1 to 99 (10), wage 0 to 99 (1).";

        static void test() {
            orderOfTheNumbers();
            tenantsToldBefore();
            linesToldBefore();
            times();
            rulesWithinTheirRanges();
            patienceWithoutIt();
            windowWithoutIt();
            stormWithoutIt();
            periodWithoutIt();
            wageWithoutIt();
            factorsWithinTheirRange();
            depth();
        }

        private static void orderOfTheNumbers() {
            due.sentence(NUMBERS);
            LineLeases x = Due.loaded("lines;handler 11 12;handler 13 14;line 21 20 23;line 24 15 26 1 0;"
                    + "raise 1 31 32;");
            int[] handlers = {11, 12, 13, 14};
            int[] lines = {21, 20, 23, 24, 15, 26};
            int[] request = {1, 31, 32};
            for (int i = 0; i < 4; i++) {
                due.same("handler " + i, handlers[i], x.handler(i / 2, i % 2));
            }
            for (int i = 0; i < 6; i++) {
                due.same("line " + i, lines[i], x.line(i / 3, i % 3));
            }
            for (int i = 0; i < 3; i++) {
                due.same("request " + i, request[i], x.request(0, i));
            }
            due.same("the first tenant", 1, x.tenant(1, 0));
            due.same("the second tenant", 0, x.tenant(1, 1));
        }

        private static void tenantsToldBefore() {
            due.sentence(NUMBERS);
            for (int count = 0; count <= 6; count++) {
                String text = HANDLERS.substring(0, 6 + 12 * count) + "line 0 1 0 ";
                due.refusesAfter(text, LineLeases.OUT_OF_RANGE, count + ";");
                due.refusesAfter(text, LineLeases.OUT_OF_RANGE, "6;");
                due.refusesAfter(text, LineLeases.OUT_OF_RANGE, count + ";" + "handler 1 1;".repeat(count < 6 ? 1 : 0));
                for (int told = 0; told < count; told++) {
                    due.accepts(text + told + ";");
                }
            }
        }

        private static void linesToldBefore() {
            due.sentence(NUMBERS);
            for (int count = 0; count <= 8; count++) {
                String text = "lines;" + "line 0 1 0;".repeat(count) + "raise ";
                due.refusesAfter(text, LineLeases.OUT_OF_RANGE, count + " 0 1;");
                due.refusesAfter(text, LineLeases.OUT_OF_RANGE, "8 0 1;");
                due.refusesAfter(text, LineLeases.OUT_OF_RANGE, count + " 0 1;line 0 1 0;");
                for (int told = 0; told < count; told++) {
                    due.same("raise of line " + told, 1, Due.load(new LineLeases(), text + told + " 0 1;"));
                }
            }
        }

        private static void times() {
            due.sentence(NUMBERS);
            LineLeases x = Due.loaded("lines;line 0 1 0;raise 0 0 1;raise 0 999 1;");
            due.same("the least time", 0, x.request(0, 1));
            due.same("the greatest time", 999, x.request(1, 1));
            due.refusesAfter("lines;line 0 1 0;raise 0 ", LineLeases.OUT_OF_RANGE, "1000 1;");
        }

        private static void rulesWithinTheirRanges() {
            due.sentence(RULES);
            String[] words = {"patience", "window", "storm", "period", "wage"};
            int[] least = {1, 1, 0, 1, 0};
            int[] most = {99, 99, 999, 99, 99};
            for (int i = 0; i < words.length; i++) {
                due.accepts("lines;" + words[i] + " " + least[i] + ";");
                due.accepts("lines;" + words[i] + " " + most[i] + ";");
                if (least[i] > 0) {
                    due.refusesAfter("lines;" + words[i] + " ", LineLeases.OUT_OF_RANGE, (least[i] - 1) + ";");
                }
                due.refusesAfter("lines;" + words[i] + " ", LineLeases.OUT_OF_RANGE, (most[i] + 1) + ";");
                due.refusesAfter("lines;" + words[i] + " ", LineLeases.SYNTAX_ERROR, "-1;");
            }
        }

        private static int ticksToTheFine(String rule) {
            LineLeases x = Due.loaded("lines;handler 9 1;line 0 9 0 0;raise 0 0 99;raise 0 0 99;raise 0 0 99;fine 1;"
                    + rule);
            int ticks = 0;
            while (ticks < 200 && x.finesIn(ticks) == 0) {
                ticks++;
            }
            return ticks;
        }

        private static void patienceWithoutIt() {
            due.sentence(RULES);
            due.same("without it", 6, ticksToTheFine(""));
            due.same("5", 6, ticksToTheFine("patience 5;"));
            due.same("1", 2, ticksToTheFine("patience 1;"));
            due.same("99", 100, ticksToTheFine("patience 99;"));
        }

        private static int ticksToCalm(String rule) {
            LineLeases x = Due.loaded("lines;line 0 1 0;" + rule);
            x.raise(0, 1);
            int ticks = 0;
            while (ticks < 200 && x.calm(0) == 0) {
                x.pass(1);
                ticks++;
            }
            return ticks;
        }

        private static void windowWithoutIt() {
            due.sentence(RULES);
            due.same("without it", 10, ticksToCalm(""));
            due.same("10", 10, ticksToCalm("window 10;"));
            due.same("1", 1, ticksToCalm("window 1;"));
            due.same("99", 99, ticksToCalm("window 99;"));
        }

        private static int storm(String rule) {
            LineLeases x = Due.loaded("lines;line 0 1 9999;" + rule);
            x.raise(0, 1);
            x.raise(0, 1);
            return x.state(4);
        }

        private static void stormWithoutIt() {
            due.sentence(RULES);
            due.same("without it", 10, storm(""));
            due.same("0", 0, storm("storm 0;"));
            due.same("10", 10, storm("storm 10;"));
            due.same("999", 999, storm("storm 999;"));
        }

        private static int ticksToTheRent(String rule) {
            LineLeases x = Due.loaded("lines;handler 9 1;line 1 1 0 0;" + rule);
            int ticks = 0;
            while (ticks < 200 && x.state(4) == 0) {
                x.pass(1);
                ticks++;
            }
            return ticks;
        }

        private static void periodWithoutIt() {
            due.sentence(RULES);
            due.same("without it", 10, ticksToTheRent(""));
            due.same("1", 1, ticksToTheRent("period 1;"));
            due.same("10", 10, ticksToTheRent("period 10;"));
            due.same("99", 99, ticksToTheRent("period 99;"));
        }

        private static int wage(String rule) {
            LineLeases x = Due.loaded("lines;handler 9 7;line 0 1 9999 0;raise 0 0 7;" + rule);
            x.pass(1);
            return x.handler(0, 7);
        }

        private static void wageWithoutIt() {
            due.sentence(RULES);
            due.same("without it", 7, wage(""));
            due.same("0", 0, wage("wage 0;"));
            due.same("1", 7, wage("wage 1;"));
            due.same("99", 693, wage("wage 99;"));
        }

        private static void factorsWithinTheirRange() {
            due.sentence("A number as a factor is 0 to 9999.");
            due.same("0", 0, Due.fineOf("0"));
            due.same("9999", 9999, Due.fineOf("9999"));
            for (String good : new String[] {"lines;fine ", "lines;fine 1+", "lines;fine 1*", "lines;fine (", "lines;"
                    + "fine (((("}) {
                due.refusesAfter(good, LineLeases.OUT_OF_RANGE, "10000;");
                due.refusesAfter(good, LineLeases.OUT_OF_RANGE, "4294967296;");
            }
        }

        private static void depth() {
            due.sentence("Parentheses nest at most 4 deep.");
            due.same("4", 20, Due.fineOf("((((left))))"));
            due.same("4 and 4", 23, Due.fineOf("((((left))))+((((held))))"));
            due.same("4 within others", 35, Due.fineOf("1+(2+(3+(4+(5+left))))"));
            due.refusesAfter("lines;fine ((((", LineLeases.TOO_DEEP, "(left)))));");
            due.refusesAfter("lines;fine ((((1))))+((((", LineLeases.TOO_DEEP, "(1)))));");
            due.refusesAfter("lines;fine 1+(2*(3-(4/(5+", LineLeases.TOO_DEEP, "(6)))));");
            due.accepts("lines;fine (1)+((1)+((1)+((1)+(1))));");
            due.refusesAfter("lines;fine (1)+((1)+((1)+((1)+(", LineLeases.TOO_DEEP, "(1)))));");
        }
    }

    private static final class TheErrors {
        private static final String SMALLEST = "The first error in the text is the one with the smallest offset.";
        private static final String SAME_OFFSET = "If several kinds of error have the same offset, the first one in "
                + "this list counts:";

        static void test() {
            theSmallestOffset();
            syntaxBeforeTheOthers();
            rangeBeforeTheOthers();
            repeatedBeforeTooMany();
            firstDigitOfARange();
            repeatedTenants();
            tooManyHandlers();
            tooManyLines();
            tooManyRequests();
            tooManyTenants();
            tooDeep();
        }

        private static void theSmallestOffset() {
            due.sentence(SMALLEST);
            String[] errors = {"handler ?;", "handler 10000 1;", "line 0 1 0 0 0;", "wage 1;wage 1;",
                    "fine (((((1)))));"};
            int[] at = {8, 8, 13, 7, 9};
            int[] codes = {LineLeases.SYNTAX_ERROR, LineLeases.OUT_OF_RANGE, LineLeases.REPEATED,
                    LineLeases.SYNTAX_ERROR,
                    LineLeases.TOO_DEEP};
            String good = "lines;handler 1 1;";
            for (int i = 0; i < errors.length; i++) {
                for (int j = 0; j < errors.length; j++) {
                    if (i != j) {
                        due.refusesAfter(good + errors[i].substring(0, at[i]), codes[i],
                                errors[i].substring(at[i]) + errors[j]);
                    }
                }
                due.refusesAfter(good + errors[i].substring(0, at[i]), codes[i],
                        errors[i].substring(at[i]) + HANDLERS + "?");
            }
            due.refusesAfter("lines;handler ", LineLeases.OUT_OF_RANGE, "10000 21;");
            due.refusesAfter("lines;handler ", LineLeases.OUT_OF_RANGE, "10000");
            due.refusesAfter("lines;line 0 ", LineLeases.OUT_OF_RANGE, "0 10000 0;");
        }

        private static void syntaxBeforeTheOthers() {
            due.sentence(SAME_OFFSET);
            due.refusesAfter("lines;handler 1 1 ", LineLeases.SYNTAX_ERROR, "99999;");
            due.refusesAfter("lines;wage 1 ", LineLeases.SYNTAX_ERROR, "100;");
            due.refusesAfter(HANDLERS + "wage ", LineLeases.SYNTAX_ERROR, "handler 1 1;");
            due.refusesAfter("lines;" + "line 0 1 0;".repeat(8) + "wage 1 ", LineLeases.SYNTAX_ERROR, "line 0 1 0;");
            due.refusesAfter("lines;line 0 1 0;" + "raise0 0 1;".repeat(60), LineLeases.SYNTAX_ERROR, "raised 0 0 1;");
            due.refusesAfter("lines;fine ((((1", LineLeases.SYNTAX_ERROR, "(1)))));");
            due.refusesAfter("lines;fine ((((1))))", LineLeases.SYNTAX_ERROR, "(1);");
        }

        private static void rangeBeforeTheOthers() {
            due.sentence(SAME_OFFSET);
            due.refusesAfter(HANDLERS + "line 0 1 0 5 4 3 ", LineLeases.OUT_OF_RANGE, "6;");
            due.refusesAfter("lines;handler 1 1;handler 1 1;handler 1 1;line 0 1 0 0 1 2 ", LineLeases.OUT_OF_RANGE,
                    "3;");
        }

        private static void repeatedBeforeTooMany() {
            due.sentence(SAME_OFFSET);
            for (int again : new int[] {5, 4, 3}) {
                due.refusesAfter(HANDLERS + "line 0 1 0 5 4 3 ", LineLeases.REPEATED, again + ";");
            }
            due.refusesAfter(HANDLERS + "line 0 1 0 5 4 3 ", LineLeases.TOO_MANY, "2;");
        }

        private static void firstDigitOfARange() {
            due.sentence("OUT_OF_RANGE: a number outside its range, at its first digit.");
            due.refusesAfter("lines;handler    ", LineLeases.OUT_OF_RANGE, "00010000 1;");
            due.refusesAfter("lines;handler1 ", LineLeases.OUT_OF_RANGE, "000;");
            due.refusesAfter("lines;wage", LineLeases.OUT_OF_RANGE, "0100;");
            due.refusesAfter("lines;fine(", LineLeases.OUT_OF_RANGE, "010000);");
        }

        private static void repeatedTenants() {
            due.sentence("REPEATED: a tenant of the line that was told for it already, at its first digit.");
            due.refusesAfter(HANDLERS + "line 0 1 0 0 ", LineLeases.REPEATED, "0;");
            due.refusesAfter(HANDLERS + "line 0 1 0 0 ", LineLeases.REPEATED, "000;");
            due.refusesAfter(HANDLERS + "line 0 1 0 0 1 ", LineLeases.REPEATED, "0;");
            due.refusesAfter(HANDLERS + "line 0 1 0 5 1 ", LineLeases.REPEATED, "1;");
            due.accepts(HANDLERS + "line 0 1 0 0 1;line 0 1 0 0 1;line 0 1 0 1 0 2;");
        }

        private static final String TOO_MANY = "TOO_MANY: a 7th handler, a 9th line or a 61st request, at the first "
                + "letter of its statement; a 4th tenant of a line, at its first digit.";

        private static void tooManyHandlers() {
            due.sentence(TOO_MANY);
            due.accepts(HANDLERS);
            due.refusesAfter(HANDLERS, LineLeases.TOO_MANY, "handler 1 1;");
            due.refusesAfter(HANDLERS + "   ", LineLeases.TOO_MANY, "handler 10000 ?;");
            due.refusesAfter(HANDLERS + "wage 1;", LineLeases.TOO_MANY, "handler");
        }

        private static void tooManyLines() {
            due.sentence(TOO_MANY);
            String eight = "lines;" + "line 0 1 0;".repeat(8);
            due.accepts(eight);
            due.refusesAfter(eight, LineLeases.TOO_MANY, "line 0 1 0;");
            due.refusesAfter(eight + "  ", LineLeases.TOO_MANY, "line 100 ?;");
            due.refusesAfter(eight + "wage 1;", LineLeases.TOO_MANY, "line");
            due.accepts(eight + "fine line;");
        }

        private static void tooManyRequests() {
            due.sentence(TOO_MANY);
            String sixty = "lines;line 0 1 0;" + "raise0 0 1;".repeat(60);
            due.same("60", 60, Due.load(new LineLeases(), sixty));
            due.refusesAfter(sixty, LineLeases.TOO_MANY, "raise0 0 1;");
            due.refusesAfter(sixty + " ", LineLeases.TOO_MANY, "raise 1 ?;");
            due.refusesAfter(sixty + "wage 1;", LineLeases.TOO_MANY, "raise");
        }

        private static void tooManyTenants() {
            due.sentence(TOO_MANY);
            due.accepts(HANDLERS + "line 0 1 0 5 0 3;");
            due.refusesAfter(HANDLERS + "line 0 1 0 5 0 3 ", LineLeases.TOO_MANY, "1;");
            due.refusesAfter(HANDLERS + "line 0 1 0 5 0 3   ", LineLeases.TOO_MANY, "001 5 ?;");
            due.accepts(HANDLERS + "line 0 1 0 5 0 3;line 0 1 0 1;");
        }

        private static void tooDeep() {
            due.sentence("TOO_DEEP: an opening parenthesis inside 4 others, at that parenthesis.");
            due.accepts("lines;fine ((((1))));");
            due.refusesAfter("lines;fine ((((", LineLeases.TOO_DEEP, "(");
            due.refusesAfter("lines;fine (((( ", LineLeases.TOO_DEEP, "((((((");
            due.refusesAfter("lines;fine ((((", LineLeases.SYNTAX_ERROR, ")");
            due.accepts("lines;fine ((((1)+(1))+(1))+(1))+(1);");
        }
    }
}
