import java.math.BigInteger;
import java.util.NoSuchElementException;

/** The edges of promises 5 to 21 and of the changes: a test for each sentence of the document that names one. */
final class PromisesEdgesTest {
    private static final Due due = new Due("PromisesEdgesTest");

    private static final int[] BEYOND = {Integer.MIN_VALUE, -100, -1, 60, 100, Integer.MAX_VALUE};

    public static void main(String[] args) {
        TheChanges.test();
        TheExceptions.test();
        TheAnswers.test();
        TheCalm.test();
        TheEnds.test();
        TheBankruptcies.test();
        TheFines.test();
        TheAdvice.test();
        ThePass.test();
        TheRaise.test();
        TheLease.test();
        TheRelease.test();
        TheFund.test();
        TheUndo.test();
        TheChecksum.test();
        due.end();
    }

    /** At 9999, the latest time that can be reached. */
    private static LineLeases atTheLatestTime(String text) {
        LineLeases x = Due.loaded(text);
        for (int i = 0; i < 49; i++) {
            x.pass(200);
        }
        x.pass(199);
        due.same("the time", 9999, x.state(0));
        return x;
    }

    /** 2 handlers, 3 lines and 4 requests at time 2: one answered, one open with a holder, one without, one to come. */
    private static final String SOME = "lines;handler 50 3;handler 60 2;line 5 9 70 0 1;line 6 9 80;line 7 9 90 1;"
            + "raise 0 0 4;raise 2 0 50;raise 1 0 30;raise 0 700 2;";

    private static LineLeases some() {
        LineLeases x = Due.loaded(SOME);
        x.pass(2);
        return x;
    }

    private static final class TheChanges {
        private static final String METHODS = "The changing methods are load (when it succeeds), pass, raise, lease, release "
                + "and fund; each such call that does not throw an exception is a change, also if all data stay as they "
                + "were.";
        private static final String LATEST_8 = "The latest 8 changes can be undone, the latest one first; a change is final as "
                + "soon as 8 later ones, none of them undone, have been made.";

        static void test() {
            eachMethodIsAChange();
            allDataMayStay();
            nothingElseIsAChange();
            aFailedLoadIsNone();
            latest8();
            finalChanges();
            noneOfThemUndone();
            beforeTheFirstLoad();
            theBankAtFirst();
        }

        /** Undoes the latest change; the data must be as before it, and so many changes be left. */
        private static void undone(String what, LineLeases x, long before, int left) {
            due.same("undo of " + what, left, x.undo());
            due.same("the data before " + what, before, x.checksum());
        }

        private static void eachMethodIsAChange() {
            due.sentence(METHODS);
            LineLeases x = some();
            long before = x.checksum();
            Due.load(x, "lines;handler 1 1;");
            undone("load", x, before, 2);
            x.pass(1);
            undone("pass", x, before, 2);
            x.raise(0, 1);
            undone("raise", x, before, 2);
            x.lease(0, 1);
            undone("lease", x, before, 2);
            x.release(1, 2);
            undone("release", x, before, 2);
            x.fund(0, 1);
            undone("fund", x, before, 2);
        }

        private static void allDataMayStay() {
            due.sentence(METHODS);
            LineLeases x = some();
            long before = x.checksum();
            due.same("a refused lease", -1, x.lease(0, 0));
            due.same("leaves all data", before, x.checksum());
            undone("a refused lease", x, before, 2);
            due.same("a refused release", -1, x.release(0, 1));
            due.same("leaves all data", before, x.checksum());
            undone("a refused release", x, before, 2);
            LineLeases y = Due.loaded(SOME);
            before = y.checksum();
            Due.load(y, SOME);
            due.same("the same text leaves all data", before, y.checksum());
            undone("a load of the same text", y, before, 1);
            LineLeases z = new LineLeases();
            due.same("a text of nothing", 0, Due.load(z, "lines;"));
            due.same("on nothing", 0, z.checksum());
            undone("a load of nothing", z, 0, 0);
        }

        private static void nothingElseIsAChange() {
            due.sentence(METHODS);
            LineLeases x = some();
            x.append(0, 0, 0, 0, 0);
            x.errorOffset();
            x.state(0);
            x.handler(0, 0);
            x.line(0, 0);
            x.tenant(0, 0);
            x.request(0, 0);
            x.calm(0);
            x.endsAt(0);
            x.bankruptIn(0);
            x.finesIn(1100);
            x.advise(0);
            x.checksum();
            due.same("the pass alone is undone", 1, x.undo());
            due.same("the time", 0, x.state(0));
        }

        private static void aFailedLoadIsNone() {
            due.sentence(METHODS);
            LineLeases x = some();
            due.same("an error", LineLeases.SYNTAX_ERROR, Due.load(x, "lines;handler 1 1;?"));
            due.same("the pass is undone", 1, x.undo());
            due.same("the time", 0, x.state(0));
        }

        private static void latest8() {
            due.sentence(LATEST_8);
            for (int changes = 1; changes <= 10; changes++) {
                LineLeases x = new LineLeases();
                for (int i = 0; i < changes; i++) {
                    x.pass(1);
                }
                for (int left = Math.min(changes, 8) - 1; left >= 0; left--) {
                    due.same(changes + " changes: undo", left, x.undo());
                    due.same("the latest one first", changes - Math.min(changes, 8) + left, x.state(0));
                }
                due.same(changes + " changes: nothing to undo", -1, x.undo());
                due.same("the time stays", changes - Math.min(changes, 8), x.state(0));
            }
        }

        private static void finalChanges() {
            due.sentence(LATEST_8);
            LineLeases x = new LineLeases();
            Due.load(x, "lines;handler 1 1;");
            for (int i = 0; i < 7; i++) {
                x.fund(0, 1);
            }
            for (int left = 7; left >= 0; left--) {
                due.same("7 later ones", left, x.undo());
            }
            due.same("the load is undone", 0, x.state(1));
            Due.load(x, "lines;handler 1 1;");
            for (int i = 0; i < 8; i++) {
                x.fund(0, 1);
            }
            for (int left = 7; left >= 0; left--) {
                due.same("8 later ones", left, x.undo());
            }
            due.same("the load is final", -1, x.undo());
            due.same("its handler stays", 1, x.state(1));
            due.same("no coin is left of the others", 1, x.handler(0, 0));
        }

        private static void noneOfThemUndone() {
            due.sentence(LATEST_8);
            LineLeases x = Due.loaded("lines;handler 1 1;");
            for (int i = 0; i < 20; i++) {
                x.fund(0, 9);
                due.same("undone, but not the load", 1, x.undo());
            }
            for (int i = 0; i < 7; i++) {
                x.fund(0, 1);
            }
            x.undo();
            x.fund(0, 5);
            for (int left = 7; left >= 0; left--) {
                due.same("7 later ones that are not undone", left, x.undo());
            }
            due.same("the load is undone", 0, x.state(1));
            // A final change stays so, whatever is undone then.
            LineLeases y = new LineLeases();
            for (int i = 0; i < 9; i++) {
                y.pass(1);
            }
            for (int i = 0; i < 8; i++) {
                y.undo();
            }
            due.same("the first of 9", -1, y.undo());
            due.same("its tick", 1, y.state(0));
            y.pass(7);
            due.same("only the new one", 0, y.undo());
            due.same("and no other", -1, y.undo());
            due.same("its tick", 1, y.state(0));
        }

        private static void beforeTheFirstLoad() {
            due.sentence("Before the first successful load there are no handlers, lines and requests, and the numbers are as "
                    + "without statements.");
            LineLeases x = new LineLeases();
            LineLeases y = new LineLeases();
            Due.load(x, "lines;handler 1 1;line 1 1 1;raise 0 0 1;?");
            for (int what = 0; what < 10; what++) {
                due.same("behind a failed load: state(" + what + ")", 0, x.state(what));
                due.same("without a load: state(" + what + ")", 0, y.state(what));
            }
            due.same("a pass", 0, x.pass(200));
            due.same("another pass", 0, y.pass(200));
            due.same("the time", 200, x.state(0));
            due.same("the time", 200, y.state(0));
            due.same("fines", 0, x.finesIn(1100));
        }

        private static void theBankAtFirst() {
            due.sentence("The bank has 0 coins at first.");
            due.same("of a new object", 0, new LineLeases().state(4));
            LineLeases x = Due.loaded("lines;handler 50 1;line 20 1 30 0;period 1;");
            due.same("behind a load", 0, x.state(4));
            x.pass(1);
            due.same("behind a rent", 20, x.state(4));
            Due.load(x, "lines;handler 50 1;line 20 1 30 0;period 1;");
            due.same("behind another load", 0, x.state(4));
        }
    }

    private static final class TheExceptions {
        private static final String NO_SUCH = "IndexOutOfBoundsException is thrown if a parameter named handler, line or "
                + "request is not the index of such a thing.";
        private static final String LISTED_FIRST = "If several exceptions apply to a call, the one that is listed first with "
                + "the method is thrown.";

        static void test() {
            noSuchHandler();
            noSuchLine();
            noSuchRequest();
            noSuchThingAtAll();
            indexesOfOtherThings();
            listedFirst();
            changesNothing();
        }

        private static void noIndex(String what, Due.Call call) {
            due.thrown(what, IndexOutOfBoundsException.class, call);
        }

        private static void handlerMethods(LineLeases x, int handler) {
            noIndex("handler " + handler, () -> x.handler(handler, 0));
            noIndex("bankruptIn " + handler, () -> x.bankruptIn(handler));
            noIndex("lease of " + handler, () -> x.lease(handler, 0));
            noIndex("release of " + handler, () -> x.release(handler, 0));
            noIndex("fund " + handler, () -> x.fund(handler, 1));
        }

        private static void lineMethods(LineLeases x, int line) {
            noIndex("line " + line, () -> x.line(line, 0));
            noIndex("tenant of " + line, () -> x.tenant(line, 0));
            noIndex("calm of " + line, () -> x.calm(line));
            noIndex("advise " + line, () -> x.advise(line));
            noIndex("raise " + line, () -> x.raise(line, 1));
            noIndex("lease of line " + line, () -> x.lease(0, line));
            noIndex("release of line " + line, () -> x.release(0, line));
        }

        private static void requestMethods(LineLeases x, int request) {
            noIndex("request " + request, () -> x.request(request, 0));
            noIndex("endsAt " + request, () -> x.endsAt(request));
        }

        private static void noSuchHandler() {
            due.sentence(NO_SUCH);
            LineLeases x = some();
            for (int bad : BEYOND) {
                handlerMethods(x, bad);
            }
            due.same("the last handler", 60, x.handler(1, 0));
            due.sentence("Throws `IndexOutOfBoundsException` if there is no such handler");
            handlerMethods(x, 2);
        }

        private static void noSuchLine() {
            due.sentence(NO_SUCH);
            LineLeases x = some();
            for (int bad : BEYOND) {
                lineMethods(x, bad);
            }
            due.same("the last line", 7, x.line(2, 0));
            due.sentence("Throws `IndexOutOfBoundsException` if there is no such line");
            lineMethods(x, 3);
        }

        private static void noSuchRequest() {
            due.sentence(NO_SUCH);
            LineLeases x = some();
            for (int bad : BEYOND) {
                requestMethods(x, bad);
            }
            due.same("the last request", 700, x.request(3, 1));
            due.sentence("Throws `IndexOutOfBoundsException` if there is no such request");
            requestMethods(x, 4);
        }

        private static void noSuchThingAtAll() {
            due.sentence(NO_SUCH);
            LineLeases x = new LineLeases();
            handlerMethods(x, 0);
            lineMethods(x, 0);
            requestMethods(x, 0);
            LineLeases y = some();
            Due.load(y, "lines;");
            handlerMethods(y, 0);
            lineMethods(y, 0);
            requestMethods(y, 0);
        }

        private static void indexesOfOtherThings() {
            due.sentence("Throws `IndexOutOfBoundsException` if there is no such handler or line");
            LineLeases x = Due.loaded("lines;handler 1 1;handler 1 1;handler 1 1;line 0 1 0;");
            noIndex("lease of line 2, which is a handler", () -> x.lease(0, 2));
            noIndex("release of line 2, which is a handler", () -> x.release(0, 2));
            due.same("lease of handler 2", 0, x.lease(2, 0));
            due.same("release of handler 2", 0, x.release(2, 0));
            LineLeases y = Due.loaded("lines;handler 1 1;line 0 1 0;line 0 1 0;line 0 1 0;");
            noIndex("lease of handler 2, which is a line", () -> y.lease(2, 0));
            noIndex("release of handler 2, which is a line", () -> y.release(2, 0));
            due.same("lease of line 2", 0, y.lease(0, 2));
            due.same("release of line 2", 0, y.release(0, 2));
        }

        private static void listedFirst() {
            due.sentence(LISTED_FIRST);
            LineLeases x = some();
            for (int bad : BEYOND) {
                noIndex("handler(2, " + bad + ")", () -> x.handler(2, bad));
                noIndex("line(3, " + bad + ")", () -> x.line(3, bad));
                noIndex("tenant(3, " + bad + ")", () -> x.tenant(3, bad));
                noIndex("request(4, " + bad + ")", () -> x.request(4, bad));
                noIndex("fund(2, " + bad + ")", () -> x.fund(2, bad == 60 || bad == 100 ? 0 : bad));
                noIndex("raise(3, " + bad + ")", () -> x.raise(3, bad == 60 ? 0 : bad));
            }
            for (int i = 4; i < 60; i++) {
                x.raise(1, 1);
            }
            noIndex("raise(3, 0) at 60 requests", () -> x.raise(3, 0));
            noIndex("raise(-1, 1) at 60 requests", () -> x.raise(-1, 1));
            due.thrown("raise(0, 0) at 60 requests", IllegalArgumentException.class, () -> x.raise(0, 0));
            due.thrown("raise(0, 100) at 60 requests", IllegalArgumentException.class, () -> x.raise(0, 100));
            due.thrown("raise(0, 1) at 60 requests", IllegalStateException.class, () -> x.raise(0, 1));
        }

        private static void changesNothing() {
            due.sentence("A method that throws an exception changes nothing.");
            LineLeases x = some();
            Due.append(x, "lines;");
            Due.Call[] calls = {() -> x.load(-1), () -> x.load(21), () -> x.state(10), () -> x.handler(0, 8),
                    () -> x.handler(2, 0), () -> x.line(0, 5), () -> x.line(3, 0), () -> x.tenant(0, 2),
                    () -> x.tenant(1, 0), () -> x.request(0, 7), () -> x.request(4, 0), () -> x.calm(3), () -> x.endsAt(4),
                    () -> x.bankruptIn(2), () -> x.finesIn(-1), () -> x.finesIn(1101), () -> x.advise(3), () -> x.pass(0),
                    () -> x.pass(201), () -> x.raise(3, 1), () -> x.raise(0, 0), () -> x.raise(0, 100),
                    () -> x.lease(2, 0), () -> x.lease(0, 3), () -> x.release(2, 0), () -> x.release(0, 3),
                    () -> x.fund(2, 1), () -> x.fund(0, 0), () -> x.fund(0, 10000)};
            long before = x.checksum();
            int fines = x.finesIn(100);
            for (int i = 0; i < calls.length; i++) {
                boolean thrown = false;
                try {
                    calls[i].answer();
                } catch (IndexOutOfBoundsException | IllegalArgumentException | NoSuchElementException e) {
                    thrown = true;
                }
                due.holds("call " + i + " throws", thrown);
                due.same("the data behind call " + i, before, x.checksum());
                due.same("fines behind call " + i, fines, x.finesIn(100));
                due.same("the error offset behind call " + i, -1, x.errorOffset());
            }
            due.same("the buffer is as it was", 40, x.append(0, 0, 0, 0, 0));
            due.same("no change was made", 1, x.undo());
            due.same("but the pass", 0, x.state(0));
            LineLeases y = atTheLatestTime("lines;");
            due.thrown("pass(1) beyond 9999", IllegalArgumentException.class, () -> y.pass(1));
            due.same("the time stays", 9999, y.state(0));
            y.undo();
            due.same("no change was made", 9800, y.state(0));
            LineLeases z = Due.loaded("lines;line 0 1 0;" + "raise0 0 1;".repeat(60));
            due.thrown("a 61st request", IllegalStateException.class, () -> z.raise(0, 1));
            due.same("still 60", 60, z.state(3));
            due.same("no change was made", 0, z.undo());
        }
    }

    private static final class TheAnswers {
        private static final String STATE = "0 the time, 1 handlers, 2 lines, 3 requests, 4 the coins of the bank, 5 open "
                + "requests, 6 answered requests, 7 refused requests, 8 handlers that are bankrupt, 9 the sum of the bank, all "
                + "purses of handlers and all device purses";
        private static final String HANDLER = "0 its purse, 1 its speed, 2 1 if it is bankrupt, otherwise 0, 3 the number of "
                + "open requests that it holds, 4 the number of lines of which it is a tenant, 5 the fines and 6 the rents "
                + "that it paid so far, 7 the wages that it got so far";
        private static final String LINE = "0 its rent, 1 its limit, 2 its device purse, 3 the number of its tenants, 4 the "
                + "number of its open requests without a holder";
        private static final String REQUEST = "0 its line, 1 its time, 2 its work, 3 its state, 4 its holder (-1 if it is not "
                + "open, or has none), 5 the work that is left (0 unless it is open), 6 the time at which it was answered or "
                + "refused (-1 otherwise)";
        private static final String WHAT = "if what is out of range";

        static void test() {
            whatOutOfRange();
            stateOfAll();
            stateOfGreatSums();
            handlerNumbers();
            handlerLines();
            handlerPaidSoFar();
            lineNumbers();
            lineWithoutHolders();
            places();
            noSuchPlace();
            requestHolder();
            requestLeft();
            requestEnded();
        }

        private static void answers(String what, LineLeases x, int[] want, int kind, int index) {
            for (int i = 0; i < want.length; i++) {
                int got = kind == 0 ? x.state(i) : kind == 1 ? x.handler(index, i) : kind == 2 ? x.line(index, i)
                        : x.request(index, i);
                due.same(what + ", what " + i, want[i], got);
            }
        }

        private static void whatOutOfRange() {
            due.sentence(WHAT);
            LineLeases x = some();
            int[][] bad = {{-1, 10, 11}, {-1, 8, 9}, {-1, 5, 6}, {-1, 7, 8}};
            for (int i = 0; i < 3; i++) {
                int at = i;
                due.thrown("state(" + bad[0][i] + ")", IllegalArgumentException.class, () -> x.state(bad[0][at]));
                due.thrown("handler(1, " + bad[1][i] + ")", IllegalArgumentException.class, () -> x.handler(1, bad[1][at]));
                due.thrown("line(2, " + bad[2][i] + ")", IllegalArgumentException.class, () -> x.line(2, bad[2][at]));
                due.thrown("request(3, " + bad[3][i] + ")", IllegalArgumentException.class, () -> x.request(3, bad[3][at]));
            }
            for (int great : new int[] {Integer.MIN_VALUE, Integer.MAX_VALUE, 1 << 16, 256}) {
                due.thrown("state(" + great + ")", IllegalArgumentException.class, () -> x.state(great));
                due.thrown("handler(0, " + great + ")", IllegalArgumentException.class, () -> x.handler(0, great));
                due.thrown("line(0, " + great + ")", IllegalArgumentException.class, () -> x.line(0, great));
                due.thrown("request(0, " + great + ")", IllegalArgumentException.class, () -> x.request(0, great));
            }
            due.same("the last one of the state", 50 + 60 + 70 + 80 + 90, x.state(9));
            due.same("the last one of a handler", 4, x.handler(0, 7));
            due.same("the last one of a line", 1, x.line(1, 4));
            due.same("the last one of a request", 1, x.request(0, 6));
        }

        private static void stateOfAll() {
            due.sentence(STATE);
            answers("nothing", new LineLeases(), new int[] {0, 0, 0, 0, 0, 0, 0, 0, 0, 0}, 0, 0);
            LineLeases x = Due.loaded("lines;handler 3 3;handler 60 2;handler 5 1;line 9 2 70 0;line 6 1 1;raise 0 0 4;raise 0 0 9;"
                    + "raise 1 1 5;raise 1 1 5;raise 0 2 5;raise 0 900 2;patience 99;period 2;storm 4;");
            answers("at first", x, new int[] {0, 3, 2, 6, 0, 0, 0, 0, 0, 139}, 0, 0);
            x.pass(1);
            // Two open ones of line 0.
            answers("at 1", x, new int[] {1, 3, 2, 6, 0, 2, 0, 0, 0, 139}, 0, 0);
            x.pass(1);
            // One answered, one refused (its device has 1 coin), a rent of 9, for which handler 0 has 3 and a wage of 4.
            answers("at 2", x, new int[] {2, 3, 2, 6, 8, 2, 1, 1, 1, 139}, 0, 0);
            x.pass(1);
            // The one of 2 is the third of line 0 in the window, and refused: 4 coins.
            answers("at 3", x, new int[] {3, 3, 2, 6, 12, 2, 1, 2, 1, 139}, 0, 0);
            x.fund(0, 1);
            answers("funded", x, new int[] {3, 3, 2, 6, 12, 2, 1, 2, 0, 140}, 0, 0);
        }

        private static void stateOfGreatSums() {
            due.sentence(STATE);
            LineLeases x = Due.loaded("lines;" + "handler 9999 1;".repeat(6) + "line 99 1 9999 0 1 2;".repeat(8) + "period 1;");
            due.same("all purses", 14 * 9999, x.state(9));
            x.pass(1);
            due.same("the bank", 8 * 99, x.state(4));
            due.same("the same sum", 14 * 9999, x.state(9));
            LineLeases y = Due.loaded("lines;handler 0 1;handler 0 1;line 2 1 0 0 1;period 1;");
            y.pass(1);
            due.same("all handlers are bankrupt", 2, y.state(8));
        }

        private static void handlerNumbers() {
            due.sentence(HANDLER);
            LineLeases x = some();
            // At 1 handler 0 ended request 0; handler 1 has done 4 of request 1.
            answers("handler 0", x, new int[] {54, 3, 0, 0, 1, 0, 0, 4}, 1, 0);
            answers("handler 1", x, new int[] {60, 2, 0, 1, 2, 0, 0, 0}, 1, 1);
            x.lease(0, 1);
            answers("handler 0 with a lease", x, new int[] {54, 3, 0, 1, 2, 0, 0, 4}, 1, 0);
        }

        private static void handlerLines() {
            due.sentence(HANDLER);
            LineLeases x = Due.loaded("lines;handler 1 1;" + "line 0 1 0;".repeat(8));
            for (int line = 0; line < 8; line++) {
                due.same("lines", line, x.handler(0, 4));
                x.lease(0, line);
            }
            due.same("all lines", 8, x.handler(0, 4));
            x.release(0, 3);
            due.same("one less", 7, x.handler(0, 4));
        }

        private static void handlerPaidSoFar() {
            due.sentence(HANDLER);
            // Fines of 4 at 1 and 2, a rent of 5 at 2; it has 12: 4 + 4 + 4 of the rent.
            LineLeases x = Due.loaded("lines;handler 12 1;line 5 9 0 0;raise 0 0 99;raise 0 0 9;patience 1;period 3;fine 4;");
            x.pass(1);
            answers("before a fine", x, new int[] {12, 1, 0, 2, 1, 0, 0, 0}, 1, 0);
            x.pass(1);
            answers("a fine", x, new int[] {8, 1, 0, 2, 1, 4, 0, 0}, 1, 0);
            x.pass(1);
            answers("another one, and a part of the rent", x, new int[] {0, 1, 1, 0, 0, 8, 4, 0}, 1, 0);
            x.fund(0, 90);
            answers("they stay when it is not bankrupt any more", x, new int[] {90, 1, 0, 0, 0, 8, 4, 0}, 1, 0);
            x.lease(0, 0);
            x.pass(3);
            answers("and become more", x, new int[] {90 - 8 - 5, 1, 0, 2, 1, 16, 9, 0}, 1, 0);
            due.same("another setup", 2, Due.load(x, "lines;handler 12 1;line 5 9 0 0;raise 0 0 99;raise 0 0 9;"));
            answers("begins anew", x, new int[] {12, 1, 0, 0, 1, 0, 0, 0}, 1, 0);
        }

        private static void lineNumbers() {
            due.sentence(LINE);
            LineLeases x = some();
            answers("line 0", x, new int[] {5, 9, 66, 2, 0}, 2, 0);
            answers("line 1", x, new int[] {6, 9, 80, 0, 1}, 2, 1);
            answers("line 2", x, new int[] {7, 9, 90, 1, 0}, 2, 2);
        }

        private static void lineWithoutHolders() {
            due.sentence(LINE);
            LineLeases x = Due.loaded("lines;handler 9 1;line 0 2 0;line 0 2 0;raise 0 0 5;raise 0 0 5;raise 0 0 5;raise 0 50 5;"
                    + "raise 1 0 5;");
            due.same("those to come do not count", 0, x.line(0, 4));
            x.pass(1);
            due.same("open ones do, a refused one does not", 2, x.line(0, 4));
            due.same("of this line alone", 1, x.line(1, 4));
            x.lease(0, 0);
            due.same("those with a holder do not", 0, x.line(0, 4));
            due.same("of another line they do", 1, x.line(1, 4));
            x.pass(5);
            x.release(0, 0);
            due.same("an answered one does not", 1, x.line(0, 4));
        }

        private static LineLeases tenantsFrom0To3() {
            return Due.loaded("lines;handler 1 1;handler 1 1;handler 1 1;line 0 1 0;line 0 1 0 2;line 0 1 0 1 0;"
                    + "line 0 1 0 2 0 1;");
        }

        private static void places() {
            due.sentence("`place`: 0 to the number of its tenants - 1");
            LineLeases x = tenantsFrom0To3();
            int[][] tenants = {{}, {2}, {1, 0}, {2, 0, 1}};
            for (int line = 0; line < 4; line++) {
                for (int place = 0; place < line; place++) {
                    due.same("tenant(" + line + ", " + place + ")", tenants[line][place], x.tenant(line, place));
                }
            }
            x.release(0, 3);
            due.same("behind a release", 1, x.tenant(3, 1));
        }

        private static void noSuchPlace() {
            due.sentence("Throws `NoSuchElementException` if there is no such place");
            LineLeases x = tenantsFrom0To3();
            for (int line = 0; line < 4; line++) {
                int its = line;
                for (int bad : new int[] {-1, line, line + 1, 3, Integer.MIN_VALUE, Integer.MAX_VALUE}) {
                    due.thrown("tenant(" + line + ", " + bad + ")", NoSuchElementException.class, () -> x.tenant(its, bad));
                }
            }
            x.release(0, 3);
            due.thrown("the place that is gone", NoSuchElementException.class, () -> x.tenant(3, 2));
        }

        private static void requestHolder() {
            due.sentence(REQUEST);
            LineLeases x = some();
            answers("answered", x, new int[] {0, 0, 4, 2, -1, 0, 1}, 3, 0);
            answers("open with a holder", x, new int[] {2, 0, 50, 1, 1, 46, -1}, 3, 1);
            answers("open without one", x, new int[] {1, 0, 30, 1, -1, 30, -1}, 3, 2);
            answers("to come", x, new int[] {0, 700, 2, 0, -1, 0, -1}, 3, 3);
            LineLeases y = Due.loaded("lines;handler 1 1;line 0 1 0 0;raise 0 3 7;raise 0 3 8;");
            y.pass(4);
            answers("refused", y, new int[] {0, 3, 8, 3, -1, 0, 3}, 3, 1);
        }

        private static void requestLeft() {
            due.sentence(REQUEST);
            LineLeases x = Due.loaded("lines;handler 1 1;line 0 1 0 0;raise 0 1 3;");
            int[] left = {0, 0, 2, 1, 0, 0};
            for (int time = 0; time < left.length; time++) {
                due.same("left at " + time, left[time], x.request(0, 5));
                x.pass(1);
            }
        }

        private static void requestEnded() {
            due.sentence(REQUEST);
            LineLeases x = Due.loaded("lines;handler 1 9;line 0 1 0 0;raise 0 0 3;raise 0 0 3;");
            due.same("to come", -1, x.request(0, 6));
            x.pass(1);
            due.same("answered at 0", 0, x.request(0, 6));
            due.same("refused at 0", 0, x.request(1, 6));
            due.same("a raise", 2, x.raise(0, 1));
            due.same("is refused at 1", 1, x.request(2, 6));
        }
    }

    private static final class TheCalm {
        private static final String CALM = "Returns how many more requests could be raised on it now, one after the other, "
                + "before one would be refused.";

        static void test() {
            betweenZeroAndTheLimit();
            asManyAsCanBeRaised();
            theWindow();
        }

        private static void betweenZeroAndTheLimit() {
            due.sentence(CALM);
            LineLeases x = Due.loaded("lines;line 0 1 0;line 0 20 0;line 0 3 0;");
            due.same("the least limit", 1, x.calm(0));
            due.same("the greatest limit", 20, x.calm(1));
            for (int raised = 0; raised < 6; raised++) {
                due.same("behind " + raised, Math.max(0, 3 - raised), x.calm(2));
                x.raise(2, 1);
            }
            due.same("never below 0", 0, x.calm(2));
            due.same("another line", 20, x.calm(1));
        }

        private static void asManyAsCanBeRaised() {
            due.sentence(CALM);
            LineLeases x = Due.loaded("lines;line 0 5 0;raise 0 0 1;raise 0 2 1;raise 0 3 1;raise 0 3 1;raise 0 4 1;window 3;");
            for (int time = 0; time < 9; time++) {
                int calm = x.calm(0);
                for (int i = 0; i < calm; i++) {
                    due.same("raise " + i + " of " + calm + " at " + time, 1, x.request(x.raise(0, 1), 3));
                }
                due.same("one more at " + time, 3, x.request(x.raise(0, 1), 3));
                for (int i = 0; i <= calm; i++) {
                    x.undo();
                }
                due.same("calm again", calm, x.calm(0));
                x.pass(1);
            }
        }

        private static void theWindow() {
            due.sentence(CALM);
            LineLeases x = Due.loaded("lines;line 0 2 0;raise 0 0 1;raise 0 1 1;raise 0 1 1;raise 0 9 1;window 3;");
            int[] calm = {2, 1, 0, 0, 2, 2, 2, 2, 2, 2, 1, 1, 2};
            for (int time = 0; time < calm.length; time++) {
                due.same("calm at " + time, calm[time], x.calm(0));
                x.pass(1);
            }
        }
    }

    private static final class TheEnds {
        private static final String ENDS = "Returns the time at which it is answered or refused, or was so; -1 if this does not "
                + "happen within 1100 ticks.";

        static void test() {
            within1100Ticks();
            countedFromNow();
            wasSo();
            refusedThen();
            neverEnds();
            beyondTheLatestTime();
        }

        /** Request 11 is answered in tick 1089 + work. */
        private static LineLeases longWork(int work) {
            return Due.loaded("lines;handler 0 1;line 0 20 0 0;" + "raise 0 0 99;".repeat(11) + "raise 0 0 " + work + ";fine 0;");
        }

        private static void within1100Ticks() {
            due.sentence(ENDS);
            due.same("in tick 1099", 1098, longWork(10).endsAt(11));
            due.same("in tick 1100", 1099, longWork(11).endsAt(11));
            due.same("in tick 1101", -1, longWork(12).endsAt(11));
            due.same("in the first tick", 0, Due.loaded("lines;handler 0 1;line 0 1 0 0;raise 0 0 1;").endsAt(0));
        }

        private static void countedFromNow() {
            due.sentence(ENDS);
            LineLeases x = longWork(99);
            x.pass(87);
            due.same("1101 ticks ahead", -1, x.endsAt(11));
            x.pass(1);
            due.same("1100 ticks ahead", 1187, x.endsAt(11));
            for (int i = 0; i < 6; i++) {
                x.pass(200 - 18);
                due.same("at " + x.state(0), 1187, x.endsAt(11));
            }
        }

        private static void wasSo() {
            due.sentence(ENDS);
            LineLeases x = Due.loaded("lines;handler 0 1;line 0 1 0 0;raise 0 0 3;raise 0 2 3;");
            x.pass(200);
            due.same("was answered", 2, x.endsAt(0));
            due.same("was refused", 2, x.endsAt(1));
            x.raise(0, 5);
            due.same("a raise", 3, x.raise(0, 5));
            due.same("is refused now", 200, x.endsAt(3));
        }

        private static void refusedThen() {
            due.sentence(ENDS);
            LineLeases x = Due.loaded("lines;line 0 1 0;raise 0 999 3;raise 0 999 3;");
            due.same("open, and nobody works", -1, x.endsAt(0));
            due.same("refused at the latest time to come", 999, x.endsAt(1));
        }

        private static void neverEnds() {
            due.sentence(ENDS);
            LineLeases x = Due.loaded("lines;handler 0 1;line 1 1 0 0;raise 0 0 99;period 50;");
            due.same("its holder is bankrupt before", -1, x.endsAt(0));
            x.fund(0, 1);
            due.same("and now it is not", 98, x.endsAt(0));
        }

        private static void beyondTheLatestTime() {
            due.sentence("Predicts a request, if nothing but ticks pass (the time may exceed 9999 for this).");
            LineLeases x = atTheLatestTime("lines;handler 0 1;line 0 20 0 0;fine 0;");
            for (int i = 0; i < 11; i++) {
                due.same("a long one", 10000 + 99 * (i + 1) - 2, x.endsAt(x.raise(0, 99)));
            }
            due.same("just within 1100 ticks", 9999 + 1099, x.endsAt(x.raise(0, 11)));
            due.same("beyond them", -1, x.endsAt(x.raise(0, 1)));
            due.same("the time stays", 9999, x.state(0));
        }
    }

    private static final class TheBankruptcies {
        private static final String TICKS = "Returns the number of ticks after which it is bankrupt; 0 if it is; -1 if it is not "
                + "within 1100 ticks.";

        static void test() {
            within1100Ticks();
            itIs();
            never();
            beyondTheLatestTime();
        }

        /** A rent of 1 each period, for which the purse suffices so many times. */
        private static LineLeases renting(int period, int purse) {
            return Due.loaded("lines;handler " + purse + " 1;line 1 1 0 0;period " + period + ";");
        }

        private static void within1100Ticks() {
            due.sentence(TICKS);
            due.same("1 tick", 1, renting(1, 0).bankruptIn(0));
            due.same("2 ticks", 2, renting(2, 0).bankruptIn(0));
            due.same("1099 ticks", 1099, renting(1, 1098).bankruptIn(0));
            due.same("1100 ticks", 1100, renting(1, 1099).bankruptIn(0));
            due.same("1101 ticks", -1, renting(1, 1100).bankruptIn(0));
            LineLeases x = renting(3, 366);
            due.same("1101 ticks by a longer period", -1, x.bankruptIn(0));
            x.pass(1);
            due.same("1100 ticks then", 1100, x.bankruptIn(0));
        }

        private static void itIs() {
            due.sentence(TICKS);
            LineLeases x = renting(5, 0);
            x.pass(4);
            due.same("in one tick", 1, x.bankruptIn(0));
            x.pass(1);
            due.same("it is", 0, x.bankruptIn(0));
            x.pass(100);
            due.same("it still is", 0, x.bankruptIn(0));
            x.fund(0, 1);
            due.same("not any more: it has no line", -1, x.bankruptIn(0));
            x.lease(0, 0);
            due.same("with a line again", 10, x.bankruptIn(0));
        }

        private static void never() {
            due.sentence(TICKS);
            LineLeases x = Due.loaded("lines;handler 0 1;handler 0 1;line 0 1 0 1;period 1;");
            due.same("no tenant, no coins", -1, x.bankruptIn(0));
            due.same("no rent, no coins", -1, x.bankruptIn(1));
        }

        private static void beyondTheLatestTime() {
            due.sentence("Predicts a handler, if nothing but ticks pass (the time may exceed 9999 for this).");
            LineLeases x = atTheLatestTime("lines;handler 9999 1;handler 0 1;line 1 1 0 0;line 7 1 0;period 9;");
            x.lease(1, 1);
            due.same("the next rent is due at 10008", 9, x.bankruptIn(1));
            x.fund(1, 7 * 121);
            due.same("the 122nd one at 11097", 1098, x.bankruptIn(1));
            x.fund(1, 7);
            due.same("the 123rd one is too late", -1, x.bankruptIn(1));
        }
    }

    private static final class TheFines {
        private static final String SUM = "Returns the sum of the fines that all handlers pay in so many ticks.";

        static void test() {
            theTicks();
            thatAllPay();
            thatAreYetToPay();
            beyondTheLatestTime();
        }

        /** Request 12 of line 1 waits for 1188 ticks: a fine of 1 each 7 ticks. */
        private static final String WAITING = "lines;handler 500 1;line 0 20 0 0;line 0 20 0 0;" + "raise 0 0 99;".repeat(12)
                + "raise 1 0 5;patience 7;fine line;";

        private static void theTicks() {
            due.sentence("`ticks`: 0 to 1100");
            LineLeases x = Due.loaded(WAITING);
            due.same("0 ticks", 0, x.finesIn(0));
            due.same("7 ticks", 0, x.finesIn(7));
            due.same("8 ticks", 1, x.finesIn(8));
            due.same("1099 ticks", 156, x.finesIn(1099));
            due.same("1100 ticks", 157, x.finesIn(1100));
            due.sentence("if ticks is out of range");
            for (int bad : new int[] {-1, 1101, Integer.MIN_VALUE, Integer.MAX_VALUE}) {
                due.thrown("finesIn(" + bad + ")", IllegalArgumentException.class, () -> x.finesIn(bad));
            }
            due.same("0 ticks of nothing", 0, new LineLeases().finesIn(0));
        }

        private static void thatAllPay() {
            due.sentence(SUM);
            LineLeases x = Due.loaded("lines;handler 5 1;handler 500 1;line 0 9 0 0;line 0 9 0 1;raise 0 0 99;raise 0 0 99;"
                    + "raise 1 0 99;raise 1 0 99;patience 1;fine 3;");
            due.same("none", 0, x.finesIn(1));
            due.same("of both", 6, x.finesIn(2));
            due.same("what the one has, and of the other", 11, x.finesIn(3));
            due.same("of the other alone", 14, x.finesIn(4));
        }

        private static void thatAreYetToPay() {
            due.sentence(SUM);
            LineLeases x = Due.loaded("lines;handler 500 1;line 0 9 0 0;raise 0 0 99;raise 0 0 99;patience 1;fine 3;");
            x.pass(5);
            due.same("paid", 12, x.handler(0, 5));
            due.same("no ticks", 0, x.finesIn(0));
            due.same("one tick", 3, x.finesIn(1));
            due.same("two ticks", 6, x.finesIn(2));
        }

        private static void beyondTheLatestTime() {
            due.sentence("Predicts fines, if nothing but ticks pass (the time may exceed 9999 for this).");
            LineLeases x = atTheLatestTime("lines;handler 9999 1;line 0 20 0 0;patience 50;fine 2;");
            x.raise(0, 99);
            x.raise(0, 99);
            due.same("1 tick", 0, x.finesIn(1));
            due.same("50 ticks", 0, x.finesIn(50));
            due.same("51 ticks", 2, x.finesIn(51));
            due.same("1100 ticks", 2, x.finesIn(1100));
        }
    }

    private static final class TheAdvice {
        private static final String ADVICE = "Returns the handler with which finesIn(100) would be smallest just behind the lease, "
                + "if this is smaller than finesIn(100) is without one; of several the one with the smallest index; -1 if "
                + "there is none.";
        private static final String TRIES = "Advises a line: tries each handler that could lease it now.";

        static void test() {
            theSmallestFines();
            theSmallestIndex();
            onlyIfSmaller();
            within100Ticks();
            whoCouldLease();
            none();
            asItIsSaid();
        }

        /** Handler 0 is the only tenant of line 0, with requests that wait; what the others are is told. */
        private static LineLeases waiting(String others) {
            return Due.loaded("lines;handler 9999 1;" + others + "line 0 9 0 0;line 0 9 0 0;line 1 9 0;raise 1 0 99;raise 0 1 30;"
                    + "raise 0 1 30;raise 0 1 30;patience 3;");
        }

        private static void theSmallestFines() {
            due.sentence(ADVICE);
            String[] others = {"handler 99 1;handler 99 2;handler 99 3;", "handler 99 3;handler 99 2;handler 99 1;",
                    "handler 99 1;handler 99 3;handler 99 2;"};
            int[] best = {3, 1, 2};
            for (int i = 0; i < others.length; i++) {
                // The requests of line 0 come in the tick at 1, when the lease has been made.
                due.same("the fastest of " + others[i], best[i], waiting(others[i]).advise(0));
            }
        }

        private static void theSmallestIndex() {
            due.sentence(ADVICE);
            due.same("three alike", 1, waiting("handler 99 2;handler 99 2;handler 99 2;").advise(0));
            due.same("the last two", 2, waiting("handler 99 1;handler 99 2;handler 99 2;").advise(0));
            due.same("the first and the last", 1, waiting("handler 99 2;handler 99 1;handler 99 2;").advise(0));
            LineLeases x = Due.loaded("lines;handler 9 9;handler 900 1;line 0 9 0 1;raise 0 0 40;raise 0 0 40;raise 0 0 40;");
            due.same("handler 0", 0, x.advise(0));
        }

        private static void onlyIfSmaller() {
            due.sentence(ADVICE);
            LineLeases x = waiting("handler 99 1;");
            due.same("no fine of line 2 becomes smaller", -1, x.advise(2));
            LineLeases y = Due.loaded("lines;handler 99 1;line 0 9 0;raise 0 0 40;raise 0 0 40;patience 3;");
            due.same("with a lease there are fines", -1, y.advise(0));
            // Handler 0 pays all that it has, 5, in any case, and 1 can take nothing of it off.
            LineLeases z = Due.loaded("lines;handler 5 1;handler 9 1;line 0 9 0 0;line 0 9 0 0;raise 1 0 99;raise 1 0 99;"
                    + "patience 1;fine 9;");
            due.same("fines", 5, z.finesIn(100));
            due.same("equal is not smaller", -1, z.advise(0));
            due.same("fewer", 1, Due.loaded("lines;handler 5 1;handler 9 20;line 0 9 0 0;raise 0 1 9;raise 0 1 9;patience 1;"
                    + "fine 1;").advise(0));
        }

        private static LineLeases fineAt(int time) {
            return Due.loaded("lines;handler 9 1;handler 9 20;line 0 9 0 0;raise 0 " + (time - 98) + " 99;raise 0 " + (time - 98)
                    + " 99;patience 98;fine 1;");
        }

        private static void within100Ticks() {
            due.sentence(ADVICE);
            LineLeases x = fineAt(99);
            due.same("a fine at 99", 1, x.finesIn(100));
            due.same("is looked at", 1, x.advise(0));
            LineLeases y = fineAt(100);
            due.same("a fine at 100", 0, y.finesIn(100));
            due.same("it is there", 1, y.finesIn(101));
            due.same("is not looked at", -1, y.advise(0));
            y.pass(1);
            due.same("but a tick later", 1, y.advise(0));
        }

        private static void whoCouldLease() {
            due.sentence(TRIES);
            LineLeases x = waiting("handler 0 20;handler 99 2;");
            due.same("the fastest one", 1, x.advise(0));
            x.lease(1, 2);
            due.same("while it is not bankrupt", 1, x.advise(0));
            LineLeases y = Due.loaded("lines;handler 9999 1;handler 0 20;handler 99 2;line 0 9 0 0;line 3 9 0 1;raise 0 1 30;"
                    + "raise 0 1 30;raise 0 1 30;patience 3;period 1;");
            y.pass(1);
            due.same("bankrupt", 1, y.handler(1, 2));
            due.same("a bankrupt one could not", 2, y.advise(0));
            y.fund(1, 1);
            due.same("not bankrupt any more", 1, y.advise(0));
            LineLeases z = waiting("handler 99 1;handler 99 1;handler 99 20;");
            z.lease(1, 0);
            due.holds("2 tenants", z.advise(0) >= 2);
            z.lease(2, 0);
            due.same("3 tenants", -1, z.advise(0));
        }

        private static void none() {
            due.sentence(ADVICE);
            due.same("no handlers", -1, Due.loaded("lines;line 0 1 0;raise 0 0 9;").advise(0));
            due.same("no requests", -1, Due.loaded("lines;handler 9 9;line 0 1 0;").advise(0));
            LineLeases x = waiting("");
            due.holds("there are fines", x.finesIn(100) > 0);
            due.same("only the tenant", -1, x.advise(0));
        }

        private static void asItIsSaid() {
            due.sentence(ADVICE);
            LineLeases x = waiting("handler 20 4;handler 5 7;handler 99 3;handler 0 6;");
            int least = x.finesIn(100);
            int best = -1;
            for (int handler = 0; handler < 5; handler++) {
                int fines = x.lease(handler, 0) < 0 ? least : x.finesIn(100);
                x.undo();
                if (fines < least) {
                    least = fines;
                    best = handler;
                }
            }
            due.holds("there is one", best > 0);
            due.same("as by leases that are undone", best, x.advise(0));
            due.same("it is not leased", 1, x.line(0, 3));
        }
    }

    private static final class ThePass {
        private static final String THROWN = "if ticks is out of range, or the time would exceed 9999";

        static void test() {
            theTicks();
            theLatestTime();
            answeredInThem();
        }

        private static void theTicks() {
            due.sentence("`ticks`: 1 to 200");
            LineLeases x = Due.loaded("lines;");
            x.pass(1);
            due.same("1", 1, x.state(0));
            x.pass(200);
            due.same("200", 201, x.state(0));
            due.sentence(THROWN);
            for (int bad : new int[] {0, 201, -1, -200, Integer.MIN_VALUE, Integer.MAX_VALUE}) {
                due.thrown("pass(" + bad + ")", IllegalArgumentException.class, () -> x.pass(bad));
            }
            due.same("the time stays", 201, x.state(0));
        }

        private static void theLatestTime() {
            due.sentence(THROWN);
            LineLeases x = atTheLatestTime("lines;handler 1 1;");
            for (int ticks : new int[] {1, 2, 200}) {
                due.thrown("pass(" + ticks + ") at 9999", IllegalArgumentException.class, () -> x.pass(ticks));
            }
            x.undo();
            due.thrown("200 from 9800", IllegalArgumentException.class, () -> x.pass(200));
            due.same("the time stays", 9800, x.state(0));
            x.pass(198);
            due.thrown("2 from 9998", IllegalArgumentException.class, () -> x.pass(2));
            due.same("1 from 9998", 0, x.pass(1));
            due.same("the latest time", 9999, x.state(0));
        }

        private static void answeredInThem() {
            due.sentence("Returns the number of requests that are answered in them.");
            LineLeases x = Due.loaded("lines;handler 0 2;line 0 3 0 0;raise 0 0 1;raise 0 0 2;raise 0 0 1;raise 0 0 4;raise 0 5 2;"
                    + "window 2;");
            due.same("one at 0", 1, x.pass(1));
            due.same("two at 1, and none of those before", 2, x.pass(1));
            due.same("none at 2 to 4, a refused one is not answered", 0, x.pass(3));
            due.same("the last one at 5", 1, x.pass(1));
            due.same("none", 0, x.pass(200));
            LineLeases y = Due.loaded("lines;handler 0 2;line 0 3 0 0;raise 0 0 1;raise 0 0 2;raise 0 0 1;raise 0 0 4;raise 0 5 2;"
                    + "window 2;");
            due.same("all at once", 4, y.pass(200));
            due.same("of nothing", 0, new LineLeases().pass(200));
        }
    }

    private static final class TheRaise {
        static void test() {
            theWork();
            theLast();
            thePresentTime();
            refused();
        }

        private static void theWork() {
            due.sentence("`work`: 1 to 99");
            LineLeases x = Due.loaded("lines;line 0 20 0;");
            due.same("1", 1, x.request(x.raise(0, 1), 5));
            due.same("99", 99, x.request(x.raise(0, 99), 5));
            due.sentence("if work is out of range");
            for (int bad : new int[] {0, 100, -1, -99, Integer.MIN_VALUE, Integer.MAX_VALUE}) {
                due.thrown("raise(0, " + bad + ")", IllegalArgumentException.class, () -> x.raise(0, bad));
            }
            due.same("requests", 2, x.state(3));
        }

        private static void theLast() {
            due.sentence("if there are 60 requests");
            LineLeases x = Due.loaded("lines;line 0 1 0;" + "raise0 0 1;".repeat(59));
            due.same("the 60th", 59, x.raise(0, 1));
            due.thrown("the 61st", IllegalStateException.class, () -> x.raise(0, 1));
            x.undo();
            due.same("the 60th again", 59, x.raise(0, 2));
            due.thrown("the 61st again", IllegalStateException.class, () -> x.raise(0, 1));
            x.pass(1);
            due.thrown("refused ones are requests, too", IllegalStateException.class, () -> x.raise(0, 1));
        }

        private static void thePresentTime() {
            due.sentence("Raises a request behind the others, at the present time.");
            LineLeases x = Due.loaded("lines;handler 9 5;line 0 9 9 0;raise 0 500 3;");
            due.same("behind the others", 1, x.raise(0, 5));
            due.same("at 0", 0, x.request(1, 1));
            due.same("open at once", 1, x.request(1, 3));
            due.same("no work is done yet", 5, x.request(1, 5));
            x.pass(1);
            due.same("in the next tick it is", 0, x.request(1, 6));
            LineLeases y = atTheLatestTime("lines;handler 9 5;line 0 1 9 0;");
            y.raise(0, 5);
            due.same("at the latest time", 9999, y.request(0, 1));
            due.same("another one", 1, y.raise(0, 5));
            due.same("is refused then", 9999, y.request(1, 6));
        }

        private static void refused() {
            due.sentence("Returns its index.");
            LineLeases x = Due.loaded("lines;line 0 1 7;storm 5;");
            due.same("an open one", 0, x.raise(0, 3));
            due.same("a refused one", 1, x.raise(0, 3));
            due.same("it is refused", 3, x.request(1, 3));
            due.same("its storm fine is paid", 5, x.state(4));
            due.same("another one", 2, x.raise(0, 3));
            due.same("what the device has", 7, x.state(4));
        }
    }

    private static final class TheLease {
        private static final String LEASE = "it becomes the last one of its tenants; then, in ascending order, the open requests "
                + "of the line without a holder are assigned.";
        private static final String REFUSED = "This is refused if it is bankrupt, or a tenant of the line already, or if there are "
                + "3 tenants.";

        static void test() {
            theLastOfItsTenants();
            requestsWithoutAHolder();
            refusedLeases();
            nothingIsDone();
        }

        private static void theLastOfItsTenants() {
            due.sentence(LEASE);
            LineLeases x = Due.loaded("lines;handler 1 1;handler 1 1;handler 1 1;line 0 1 0;");
            int[] order = {2, 0, 1};
            for (int place = 0; place < 3; place++) {
                due.same("none to assign", 0, x.lease(order[place], 0));
                due.same("tenants", place + 1, x.line(0, 3));
                for (int p = 0; p <= place; p++) {
                    due.same("tenant " + p, order[p], x.tenant(0, p));
                }
            }
        }

        private static void requestsWithoutAHolder() {
            due.sentence("Returns the number of requests that are assigned; -1 if this is refused (nothing is done then).");
            LineLeases x = Due.loaded("lines;handler 1 1;handler 1 1;line 0 3 0;line 0 9 0;raise 0 0 5;raise 1 0 5;raise 0 0 6;"
                    + "raise 0 0 7;raise 0 0 8;raise 0 500 9;");
            x.pass(1);
            due.same("3 open ones, neither the refused one nor the one to come", 3, x.lease(0, 0));
            due.same("held", 3, x.handler(0, 3));
            due.same("not that of the other line", -1, x.request(1, 4));
            due.same("the others have a holder: none is assigned", 0, x.lease(1, 0));
            due.same("held by the new one", 0, x.handler(1, 3));
            due.same("that of the other line", 1, x.lease(1, 1));
            due.same("its holder", 1, x.request(1, 4));
        }

        private static void refusedLeases() {
            due.sentence(REFUSED);
            LineLeases x = Due.loaded("lines;handler 0 1;handler 9 1;handler 9 1;handler 9 1;line 1 1 0 0;line 0 1 0 1 2;line 0 1 0;"
                    + "period 1;");
            due.same("a tenant already", -1, x.lease(0, 0));
            due.same("not bankrupt yet", 0, x.lease(0, 2));
            x.pass(1);
            due.same("bankrupt", -1, x.lease(0, 2));
            due.same("bankrupt, of a line that it had", -1, x.lease(0, 0));
            due.same("the third tenant", 0, x.lease(3, 1));
            due.same("tenants", 3, x.line(1, 3));
            x.fund(0, 5);
            due.same("a fourth tenant", -1, x.lease(0, 1));
            due.same("a tenant already, of three", -1, x.lease(1, 1));
            due.same("not bankrupt any more", 0, x.lease(0, 2));
        }

        private static void nothingIsDone() {
            due.sentence("-1 if this is refused (nothing is done then).");
            LineLeases x = Due.loaded("lines;handler 0 1;handler 9 1;handler 9 1;handler 9 1;line 1 1 0 0;line 0 1 0 1 2 3;line 0 1 0;"
                    + "raise 2 0 7;period 1;");
            x.pass(1);
            long before = x.checksum();
            due.same("a bankrupt one", -1, x.lease(0, 2));
            due.same("nothing is done", before, x.checksum());
            due.same("a tenant already", -1, x.lease(2, 1));
            due.same("nothing is done", before, x.checksum());
            due.same("the order stays", 2, x.tenant(1, 1));
            x.fund(0, 1);
            before = x.checksum();
            due.same("a fourth tenant", -1, x.lease(0, 1));
            due.same("nothing is done", before, x.checksum());
        }
    }

    private static final class TheRelease {
        private static final String RELEASE = "it is no tenant of it any more; then, in ascending order, the open requests of the "
                + "line that it holds are assigned anew. This is refused if it is no tenant of it.";
        private static final String RETURNS = "Returns the number of requests that are assigned anew (also those that have no "
                + "holder then); -1 if this is refused (nothing is done then).";

        static void test() {
            noTenantAnyMore();
            assignedInAscendingOrder();
            onlyThoseOfTheLine();
            noHolderThen();
            refusedReleases();
        }

        private static void noTenantAnyMore() {
            due.sentence(RELEASE);
            int[][] rest = {{0, 1}, {2, 1}, {2, 0}};
            int[] order = {2, 0, 1};
            for (int gone = 0; gone < 3; gone++) {
                LineLeases x = Due.loaded("lines;handler 1 1;handler 1 1;handler 1 1;line 0 1 0 2 0 1;line 0 1 0 0 1 2;");
                due.same("none to assign", 0, x.release(order[gone], 0));
                due.same("tenants", 2, x.line(0, 3));
                due.same("the first", rest[gone][0], x.tenant(0, 0));
                due.same("the second", rest[gone][1], x.tenant(0, 1));
                due.same("the other line keeps it", 3, x.line(1, 3));
                due.same("it is no tenant", -1, x.release(order[gone], 0));
            }
        }

        private static void assignedInAscendingOrder() {
            due.sentence(RELEASE);
            LineLeases x = Due.loaded("lines;handler 1 1;handler 1 1;handler 1 1;line 0 9 0 0;line 0 9 0 2;raise 0 0 9;raise 0 0 9;"
                    + "raise 0 0 9;raise 1 0 9;");
            x.pass(1);
            x.lease(1, 0);
            x.lease(2, 0);
            due.same("three are assigned", 3, x.release(0, 0));
            due.same("to 1, who has none", 1, x.request(0, 4));
            due.same("to 1, the first of two with one", 1, x.request(1, 4));
            due.same("to 2, who has one", 2, x.request(2, 4));
        }

        private static void onlyThoseOfTheLine() {
            due.sentence(RELEASE);
            LineLeases x = Due.loaded("lines;handler 1 9;handler 1 9;line 0 2 0 0;line 0 9 0 0 1;raise 0 0 9;raise 1 0 50;"
                    + "raise 0 1 99;raise 0 1 9;raise 0 500 9;");
            due.same("handler 0 holds one of line 1", 0, x.request(x.raise(1, 50), 4));
            x.pass(2);
            due.same("the other one of line 1", 1, x.request(1, 4));
            int[] states = {2, 1, 1, 3, 0, 1};
            for (int i = 0; i < states.length; i++) {
                due.same("state of request " + i, states[i], x.request(i, 3));
            }
            due.same("held of line 0", 0, x.request(2, 4));
            due.same("only that is assigned anew", 1, x.release(0, 0));
            due.same("nobody holds it", -1, x.request(2, 4));
            due.same("handler 0 holds that of line 1", 0, x.request(5, 4));
            due.same("handler 1 holds the other one", 1, x.request(1, 4));
            due.same("held by handler 0", 1, x.handler(0, 3));
        }

        private static void noHolderThen() {
            due.sentence(RETURNS);
            LineLeases x = Due.loaded("lines;handler 1 1;line 0 9 0 0;raise 0 0 9;raise 0 0 9;");
            x.pass(1);
            due.same("also those without a holder", 2, x.release(0, 0));
            due.same("no holder", -1, x.request(0, 4));
            due.same("no holder", -1, x.request(1, 4));
            due.same("its work stays", 8, x.request(0, 5));
            due.same("none is held", 0, x.handler(0, 3));
            due.same("back again", 2, x.lease(0, 0));
        }

        private static void refusedReleases() {
            due.sentence(RETURNS);
            LineLeases x = Due.loaded("lines;handler 0 1;handler 9 1;line 1 9 0 0 1;line 0 9 0 1;raise 1 0 9;period 1;");
            long before = x.checksum();
            due.same("no tenant of line 1", -1, x.release(0, 1));
            due.same("nothing is done", before, x.checksum());
            x.pass(1);
            before = x.checksum();
            due.same("bankrupt, and so no tenant", -1, x.release(0, 0));
            due.same("nothing is done", before, x.checksum());
            due.same("another tenant", 0, x.release(1, 0));
            due.same("once", -1, x.release(1, 0));
        }
    }

    private static final class TheFund {
        static void test() {
            theCoins();
            aBankruptOne();
        }

        private static void theCoins() {
            due.sentence("`coins`: 1 to 9999");
            LineLeases x = Due.loaded("lines;handler 0 1;handler 9999 1;");
            due.same("1 of 0", 1, x.fund(0, 1));
            due.sentence("Returns its purse then.");
            due.same("9999 of 1", 10000, x.fund(0, 9999));
            due.same("1 of 9999", 10000, x.fund(1, 1));
            due.same("the answer is the purse", 10000, x.handler(1, 0));
            due.same("all coins", 20000, x.state(9));
            due.same("no wage", 0, x.handler(1, 7));
            due.sentence("if coins is out of range");
            for (int bad : new int[] {0, 10000, -1, -9999, Integer.MIN_VALUE, Integer.MAX_VALUE}) {
                due.thrown("fund(0, " + bad + ")", IllegalArgumentException.class, () -> x.fund(0, bad));
            }
            due.same("the purse stays", 10000, x.handler(0, 0));
        }

        private static void aBankruptOne() {
            due.sentence("Puts coins into the purse of a handler; a bankrupt one is not bankrupt any more then.");
            LineLeases x = Due.loaded("lines;handler 3 1;line 4 9 0 0;raise 0 0 90;period 1;");
            x.pass(1);
            due.same("bankrupt", 1, x.handler(0, 2));
            due.same("funded with 1", 1, x.fund(0, 1));
            due.same("not bankrupt", 0, x.handler(0, 2));
            due.same("no tenant", 0, x.handler(0, 4));
            due.same("it holds none", 0, x.handler(0, 3));
            due.same("it may lease", 1, x.lease(0, 0));
            x.undo();
            x.undo();
            due.same("bankrupt again by an undo", 1, x.handler(0, 2));
            due.same("no lease then", -1, x.lease(0, 0));
            x.undo();
            x.undo();
            due.same("and not by another one", 0, x.handler(0, 2));
            due.same("with its purse", 3, x.handler(0, 0));
        }
    }

    private static final class TheUndo {
        static void test() {
            bufferAndOffset();
            offsetOfALoad();
            noneToUndo();
            rulesComeBack();
        }

        private static final String NOT_AFFECTED = "The input buffer and the error offset are not affected.";

        private static void bufferAndOffset() {
            due.sentence(NOT_AFFECTED);
            LineLeases x = Due.loaded("lines;handler 1 1;");
            Due.append(x, "lines;handler 2 2;");
            x.undo();
            due.same("the buffer has its bytes", 0, x.load(18));
            due.same("the handler", 2, x.handler(0, 0));
            x.undo();
            due.thrown("an undone load does not fill it again", IllegalArgumentException.class, () -> x.load(1));
            due.same("it is empty", 20, x.append(0, 0, 0, 0, 0));
            x.undo();
            due.same("nor does an undo with nothing to undo", 40, x.append(0, 0, 0, 0, 0));
        }

        private static void offsetOfALoad() {
            due.sentence(NOT_AFFECTED);
            LineLeases x = Due.loaded("lines;handler 1 1;");
            x.pass(1);
            Due.load(x, "lines;?");
            x.undo();
            due.same("the offset of the failed load", 6, x.errorOffset());
            x.undo();
            due.same("also behind the undo of a load", 6, x.errorOffset());
            x.undo();
            due.same("and with nothing to undo", 6, x.errorOffset());
            Due.load(x, "lines;");
            x.undo();
            due.same("it does not come back", -1, x.errorOffset());
        }

        private static void noneToUndo() {
            due.sentence("Returns the number of changes that can still be undone; -1 if there was none to undo, and nothing "
                    + "changes then.");
            LineLeases x = new LineLeases();
            due.same("of a new object", -1, x.undo());
            due.same("again", -1, x.undo());
            Due.load(x, "lines;handler 5 5;");
            x.pass(7);
            due.same("1 is left", 1, x.undo());
            due.same("0 are left", 0, x.undo());
            due.same("none", -1, x.undo());
            for (int i = 0; i < 12; i++) {
                x.pass(1);
            }
            for (int i = 0; i < 8; i++) {
                due.same("left", 7 - i, x.undo());
            }
            long before = x.checksum();
            due.same("none", -1, x.undo());
            due.same("nothing changes", before, x.checksum());
            due.same("the time", 4, x.state(0));
        }

        private static void rulesComeBack() {
            due.sentence("Undoes the latest change that is not final and has not been undone.");
            String text = "lines;handler 900 1;line 5 2 90 0;raise 0 0 9;raise 0 0 3;raise 0 3 9;raise 0 4 9;raise 0 4 9;patience 2;"
                    + "window 2;storm 3;period 3;wage 4;fine left*2+held;";
            LineLeases x = Due.loaded(text);
            LineLeases y = Due.loaded(text);
            x.pass(1);
            y.pass(1);
            Due.load(x, "lines;handler 1 20;handler 2 2;line 9 9 9;patience 9;window 9;storm 9;period 9;wage 9;fine 9;");
            x.pass(9);
            x.undo();
            x.undo();
            for (int tick = 0; tick < 30; tick++) {
                due.same("as without them at " + tick, y.checksum(), x.checksum());
                x.pass(1);
                y.pass(1);
            }
        }
    }

    private static final class TheChecksum {
        static void test() {
            ofNothing();
            inThisOrder();
        }

        private static final String SUM = "It starts at 0; each number n in the following order replaces it by 31 * checksum + n, "
                + "wrapping around on overflow of a long:";

        private static void ofNothing() {
            due.sentence(SUM);
            due.same("ten zeros", 0, new LineLeases().checksum());
            LineLeases x = new LineLeases();
            x.pass(1);
            long sum = 1;
            for (int i = 0; i < 9; i++) {
                sum *= 31;
            }
            due.same("the time alone", sum, x.checksum());
        }

        private static BigInteger plus(BigInteger sum, long n) {
            return sum.multiply(BigInteger.valueOf(31)).add(BigInteger.valueOf(n));
        }

        /** What the document says, without any limit; its lowest 64 bits are the checksum. */
        private static BigInteger wholeSum(LineLeases x) {
            BigInteger sum = BigInteger.ZERO;
            for (int what = 0; what <= 9; what++) {
                sum = plus(sum, x.state(what));
            }
            for (int i = 0; i < x.state(1); i++) {
                for (int what = 0; what <= 7; what++) {
                    sum = plus(sum, x.handler(i, what));
                }
            }
            for (int i = 0; i < x.state(2); i++) {
                for (int what = 0; what <= 4; what++) {
                    sum = plus(sum, x.line(i, what));
                }
                for (int place = 0; place < x.line(i, 3); place++) {
                    sum = plus(sum, x.tenant(i, place));
                }
            }
            for (int i = 0; i < x.state(3); i++) {
                for (int what = 0; what <= 6; what++) {
                    sum = plus(sum, x.request(i, what));
                }
            }
            return sum;
        }

        private static void inThisOrder() {
            due.sentence("state(0) to state(9); for each handler what handler(int, int) tells of it for 0 to 7; for each line what "
                    + "line(int, int) tells for 0 to 4, and then its tenants; for each request what request(int, int) tells for "
                    + "0 to 6.");
            LineLeases x = Due.loaded("lines;handler 40 3;handler 50 4;handler 1 1;line 6 7 80 1 0;line 9 10 11;line 3 1 70 2 0 1;"
                    + "raise 0 0 12;raise 2 0 9;raise 1 1 8;raise 2 1 9;raise 0 2 9;patience 1;period 3;fine held;");
            boolean wrapped = false;
            for (int tick = 0; tick < 20; tick++) {
                BigInteger sum = wholeSum(x);
                due.same("at " + tick, sum.longValue(), x.checksum());
                wrapped |= sum.bitLength() > 64;
                x.pass(1);
            }
            due.holds("it wraps around", wrapped);
        }
    }
}
