import java.util.NoSuchElementException;

/** The edges of promises 15 to 20 and of the changes: a test for each sentence of the document that names one. */
final class ChangesEdgesTest {
    private static final Due due = new Due("ChangesEdgesTest");

    private static final int[] BEYOND = {Integer.MIN_VALUE, -100, -1, 60, 100, Integer.MAX_VALUE};

    public static void main(String[] args) {
        TheChanges.test();
        TheExceptions.test();
        ThePass.test();
        TheRaise.test();
        TheLease.test();
        TheRelease.test();
        TheFund.test();
        TheUndo.test();
        due.end();
    }

    private static final class TheChanges {
        private static final String METHODS = "The changing methods are load (when it succeeds), pass, raise, lease, "
                + "release and fund; each such call that does not throw an exception is a change, also if all data "
                + "stay as they were.";
        private static final String LATEST_8 = "The latest 8 changes can be undone, the latest one first;"
                + " a change is final as soon as 8 later ones, none of them undone, have been made.";

        static void test() {
            eachMethodIsAChange();
            allDataMayStay();
            nothingElseIsAChange();
            aFailedLoadIsNone();
            latest8();
            finalChanges();
            noneOfThemUndone();
            beforeTheFirstLoad();
            theBankAtFirst();
        }

        /** Undoes the latest change; the data must be as before it, and so many changes be left. */
        private static void undone(String what, LineLeases x, long before, int left) {
            due.same("undo of " + what, left, x.undo());
            due.same("the data before " + what, before, x.checksum());
        }

        private static void eachMethodIsAChange() {
            due.sentence(METHODS);
            LineLeases x = SomeRequests.loaded();
            long before = x.checksum();
            Due.load(x, "lines;handler 1 1;");
            undone("load", x, before, 2);
            x.pass(1);
            undone("pass", x, before, 2);
            x.raise(0, 1);
            undone("raise", x, before, 2);
            x.lease(0, 1);
            undone("lease", x, before, 2);
            x.release(1, 2);
            undone("release", x, before, 2);
            x.fund(0, 1);
            undone("fund", x, before, 2);
        }

        private static void allDataMayStay() {
            due.sentence(METHODS);
            LineLeases x = SomeRequests.loaded();
            long before = x.checksum();
            due.same("a refused lease", -1, x.lease(0, 0));
            due.same("leaves all data", before, x.checksum());
            undone("a refused lease", x, before, 2);
            due.same("a refused release", -1, x.release(0, 1));
            due.same("leaves all data", before, x.checksum());
            undone("a refused release", x, before, 2);
            LineLeases y = Due.loaded(SomeRequests.TEXT);
            before = y.checksum();
            Due.load(y, SomeRequests.TEXT);
            due.same("the same text leaves all data", before, y.checksum());
            undone("a load of the same text", y, before, 1);
            LineLeases z = new LineLeases();
            due.same("a text of nothing", 0, Due.load(z, "lines;"));
            due.same("on nothing", 0, z.checksum());
            undone("a load of nothing", z, 0, 0);
        }

        private static void nothingElseIsAChange() {
            due.sentence(METHODS);
            LineLeases x = SomeRequests.loaded();
            x.append(0, 0, 0, 0, 0);
            x.errorOffset();
            x.state(0);
            x.handler(0, 0);
            x.line(0, 0);
            x.tenant(0, 0);
            x.request(0, 0);
            x.calm(0);
            x.endsAt(0);
            x.bankruptIn(0);
            x.finesIn(1100);
            x.advise(0);
            x.checksum();
            due.same("the pass alone is undone", 1, x.undo());
            due.same("the time", 0, x.state(0));
        }

        private static void aFailedLoadIsNone() {
            due.sentence(METHODS);
            LineLeases x = SomeRequests.loaded();
            due.same("an error", LineLeases.SYNTAX_ERROR, Due.load(x, "lines;handler 1 1;?"));
            due.same("the pass is undone", 1, x.undo());
            due.same("the time", 0, x.state(0));
        }

        private static void latest8() {
            due.sentence(LATEST_8);
            for (int changes = 1; changes <= 10; changes++) {
                LineLeases x = new LineLeases();
                for (int i = 0; i < changes; i++) {
                    x.pass(1);
                }
                for (int left = Math.min(changes, 8) - 1; left >= 0; left--) {
                    due.same(changes + " changes: undo", left, x.undo());
                    due.same("the latest one first", changes - Math.min(changes, 8) + left, x.state(0));
                }
                due.same(changes + " changes: nothing to undo", -1, x.undo());
                due.same("the time stays", changes - Math.min(changes, 8), x.state(0));
            }
        }

        private static void finalChanges() {
            due.sentence(LATEST_8);
            LineLeases x = new LineLeases();
            Due.load(x, "lines;handler 1 1;");
            for (int i = 0; i < 7; i++) {
                x.fund(0, 1);
            }
            for (int left = 7; left >= 0; left--) {
                due.same("7 later ones", left, x.undo());
            }
            due.same("the load is undone", 0, x.state(1));
            Due.load(x, "lines;handler 1 1;");
            for (int i = 0; i < 8; i++) {
                x.fund(0, 1);
            }
            for (int left = 7; left >= 0; left--) {
                due.same("8 later ones", left, x.undo());
            }
            due.same("the load is final", -1, x.undo());
            due.same("its handler stays", 1, x.state(1));
            due.same("no coin is left of the others", 1, x.handler(0, 0));
        }

        private static void noneOfThemUndone() {
            due.sentence(LATEST_8);
            LineLeases x = Due.loaded("lines;handler 1 1;");
            for (int i = 0; i < 20; i++) {
                x.fund(0, 9);
                due.same("undone, but not the load", 1, x.undo());
            }
            for (int i = 0; i < 7; i++) {
                x.fund(0, 1);
            }
            x.undo();
            x.fund(0, 5);
            for (int left = 7; left >= 0; left--) {
                due.same("7 later ones that are not undone", left, x.undo());
            }
            due.same("the load is undone", 0, x.state(1));
            // A final change stays so, whatever is undone then.
            LineLeases y = new LineLeases();
            for (int i = 0; i < 9; i++) {
                y.pass(1);
            }
            for (int i = 0; i < 8; i++) {
                y.undo();
            }
            due.same("the first of 9", -1, y.undo());
            due.same("its tick", 1, y.state(0));
            y.pass(7);
            due.same("only the new one", 0, y.undo());
            due.same("and no other", -1, y.undo());
            due.same("its tick", 1, y.state(0));
        }

        private static void beforeTheFirstLoad() {
            due.sentence("Before the first successful load there are no handlers, lines and requests, and the numbers "
                    + "are as without statements.");
            LineLeases x = new LineLeases();
            LineLeases y = new LineLeases();
            Due.load(x, "lines;handler 1 1;line 1 1 1;raise 0 0 1;?");
            for (int what = 0; what < 10; what++) {
                due.same("behind a failed load: state(" + what + ")", 0, x.state(what));
                due.same("without a load: state(" + what + ")", 0, y.state(what));
            }
            due.same("a pass", 0, x.pass(200));
            due.same("another pass", 0, y.pass(200));
            due.same("the time", 200, x.state(0));
            due.same("the time", 200, y.state(0));
            due.same("fines", 0, x.finesIn(1100));
        }

        private static void theBankAtFirst() {
            due.sentence("The bank has 0 coins at first.");
            due.same("of a new object", 0, new LineLeases().state(4));
            LineLeases x = Due.loaded("lines;handler 50 1;line 20 1 30 0;period 1;");
            due.same("behind a load", 0, x.state(4));
            x.pass(1);
            due.same("behind a rent", 20, x.state(4));
            Due.load(x, "lines;handler 50 1;line 20 1 30 0;period 1;");
            due.same("behind another load", 0, x.state(4));
        }
    }

    private static final class TheExceptions {
        private static final String NO_SUCH = "IndexOutOfBoundsException is thrown if a parameter named handler, line "
                + "or request is not the index of such a thing.";
        private static final String LISTED_FIRST = "If several exceptions apply to a call, the one that is listed "
                + "first with the method is thrown.";

        static void test() {
            noSuchHandler();
            noSuchLine();
            noSuchRequest();
            noSuchThingAtAll();
            indexesOfOtherThings();
            listedFirst();
            changesNothing();
        }

        private static void noIndex(String what, Due.Call call) {
            due.thrown(what, IndexOutOfBoundsException.class, call);
        }

        private static void handlerMethods(LineLeases x, int handler) {
            noIndex("handler " + handler, () -> x.handler(handler, 0));
            noIndex("bankruptIn " + handler, () -> x.bankruptIn(handler));
            noIndex("lease of " + handler, () -> x.lease(handler, 0));
            noIndex("release of " + handler, () -> x.release(handler, 0));
            noIndex("fund " + handler, () -> x.fund(handler, 1));
        }

        private static void lineMethods(LineLeases x, int line) {
            noIndex("line " + line, () -> x.line(line, 0));
            noIndex("tenant of " + line, () -> x.tenant(line, 0));
            noIndex("calm of " + line, () -> x.calm(line));
            noIndex("advise " + line, () -> x.advise(line));
            noIndex("raise " + line, () -> x.raise(line, 1));
            noIndex("lease of line " + line, () -> x.lease(0, line));
            noIndex("release of line " + line, () -> x.release(0, line));
        }

        private static void requestMethods(LineLeases x, int request) {
            noIndex("request " + request, () -> x.request(request, 0));
            noIndex("endsAt " + request, () -> x.endsAt(request));
        }

        private static void noSuchHandler() {
            due.sentence(NO_SUCH);
            LineLeases x = SomeRequests.loaded();
            for (int bad : BEYOND) {
                handlerMethods(x, bad);
            }
            due.same("the last handler", 60, x.handler(1, 0));
            due.sentence("Throws `IndexOutOfBoundsException` if there is no such handler");
            handlerMethods(x, 2);
        }

        private static void noSuchLine() {
            due.sentence(NO_SUCH);
            LineLeases x = SomeRequests.loaded();
            for (int bad : BEYOND) {
                lineMethods(x, bad);
            }
            due.same("the last line", 7, x.line(2, 0));
            due.sentence("Throws `IndexOutOfBoundsException` if there is no such line");
            lineMethods(x, 3);
        }

        private static void noSuchRequest() {
            due.sentence(NO_SUCH);
            LineLeases x = SomeRequests.loaded();
            for (int bad : BEYOND) {
                requestMethods(x, bad);
            }
            due.same("the last request", 700, x.request(3, 1));
            due.sentence("Throws `IndexOutOfBoundsException` if there is no such request");
            requestMethods(x, 4);
        }

        private static void noSuchThingAtAll() {
            due.sentence(NO_SUCH);
            LineLeases x = new LineLeases();
            handlerMethods(x, 0);
            lineMethods(x, 0);
            requestMethods(x, 0);
            LineLeases y = SomeRequests.loaded();
            Due.load(y, "lines;");
            handlerMethods(y, 0);
            lineMethods(y, 0);
            requestMethods(y, 0);
        }

        private static void indexesOfOtherThings() {
            due.sentence("Throws `IndexOutOfBoundsException` if there is no such handler or line");
            LineLeases x = Due.loaded("lines;handler 1 1;handler 1 1;handler 1 1;line 0 1 0;");
            noIndex("lease of line 2, which is a handler", () -> x.lease(0, 2));
            noIndex("release of line 2, which is a handler", () -> x.release(0, 2));
            due.same("lease of handler 2", 0, x.lease(2, 0));
            due.same("release of handler 2", 0, x.release(2, 0));
            LineLeases y = Due.loaded("lines;handler 1 1;line 0 1 0;line 0 1 0;line 0 1 0;");
            noIndex("lease of handler 2, which is a line", () -> y.lease(2, 0));
            noIndex("release of handler 2, which is a line", () -> y.release(2, 0));
            due.same("lease of line 2", 0, y.lease(0, 2));
            due.same("release of line 2", 0, y.release(0, 2));
        }

        private static void listedFirst() {
            due.sentence(LISTED_FIRST);
            LineLeases x = SomeRequests.loaded();
            for (int bad : BEYOND) {
                noIndex("handler(2, " + bad + ")", () -> x.handler(2, bad));
                noIndex("line(3, " + bad + ")", () -> x.line(3, bad));
                noIndex("tenant(3, " + bad + ")", () -> x.tenant(3, bad));
                noIndex("request(4, " + bad + ")", () -> x.request(4, bad));
                noIndex("fund(2, " + bad + ")", () -> x.fund(2, bad == 60 || bad == 100 ? 0 : bad));
                noIndex("raise(3, " + bad + ")", () -> x.raise(3, bad == 60 ? 0 : bad));
            }
            for (int i = 4; i < 60; i++) {
                x.raise(1, 1);
            }
            noIndex("raise(3, 0) at 60 requests", () -> x.raise(3, 0));
            noIndex("raise(-1, 1) at 60 requests", () -> x.raise(-1, 1));
            due.thrown("raise(0, 0) at 60 requests", IllegalArgumentException.class, () -> x.raise(0, 0));
            due.thrown("raise(0, 100) at 60 requests", IllegalArgumentException.class, () -> x.raise(0, 100));
            due.thrown("raise(0, 1) at 60 requests", IllegalStateException.class, () -> x.raise(0, 1));
        }

        private static void changesNothing() {
            due.sentence("A method that throws an exception changes nothing.");
            LineLeases x = SomeRequests.loaded();
            Due.append(x, "lines;");
            Due.Call[] calls = {() -> x.load(-1), () -> x.load(21), () -> x.state(10), () -> x.handler(0, 8),
                    () -> x.handler(2, 0), () -> x.line(0, 5), () -> x.line(3, 0), () -> x.tenant(0, 2),
                    () -> x.tenant(1, 0), () -> x.request(0, 7), () -> x.request(4, 0), () -> x.calm(3),
                            () -> x.endsAt(4),
                    () -> x.bankruptIn(2), () -> x.finesIn(-1), () -> x.finesIn(1101), () -> x.advise(3),
                            () -> x.pass(0),
                    () -> x.pass(201), () -> x.raise(3, 1), () -> x.raise(0, 0), () -> x.raise(0, 100),
                    () -> x.lease(2, 0), () -> x.lease(0, 3), () -> x.release(2, 0), () -> x.release(0, 3),
                    () -> x.fund(2, 1), () -> x.fund(0, 0), () -> x.fund(0, 10000)};
            long before = x.checksum();
            int fines = x.finesIn(100);
            for (int i = 0; i < calls.length; i++) {
                boolean thrown = false;
                try {
                    calls[i].answer();
                } catch (IndexOutOfBoundsException | IllegalArgumentException | NoSuchElementException e) {
                    thrown = true;
                }
                due.holds("call " + i + " throws", thrown);
                due.same("the data behind call " + i, before, x.checksum());
                due.same("fines behind call " + i, fines, x.finesIn(100));
                due.same("the error offset behind call " + i, -1, x.errorOffset());
            }
            due.same("the buffer is as it was", 40, x.append(0, 0, 0, 0, 0));
            due.same("no change was made", 1, x.undo());
            due.same("but the pass", 0, x.state(0));
            LineLeases y = Due.atTheLatestTime("lines;");
            due.thrown("pass(1) beyond 9999", IllegalArgumentException.class, () -> y.pass(1));
            due.same("the time stays", 9999, y.state(0));
            y.undo();
            due.same("no change was made", 9800, y.state(0));
            LineLeases z = Due.loaded("lines;line 0 1 0;" + "raise0 0 1;".repeat(60));
            due.thrown("a 61st request", IllegalStateException.class, () -> z.raise(0, 1));
            due.same("still 60", 60, z.state(3));
            due.same("no change was made", 0, z.undo());
        }
    }

    private static final class ThePass {
        private static final String THROWN = "if ticks is out of range, or the time would exceed 9999";

        static void test() {
            theTicks();
            theLatestTime();
            answeredInThem();
        }

        private static void theTicks() {
            due.sentence("`ticks`: 1 to 200");
            LineLeases x = Due.loaded("lines;");
            x.pass(1);
            due.same("1", 1, x.state(0));
            x.pass(200);
            due.same("200", 201, x.state(0));
            due.sentence(THROWN);
            for (int bad : new int[] {0, 201, -1, -200, Integer.MIN_VALUE, Integer.MAX_VALUE}) {
                due.thrown("pass(" + bad + ")", IllegalArgumentException.class, () -> x.pass(bad));
            }
            due.same("the time stays", 201, x.state(0));
        }

        private static void theLatestTime() {
            due.sentence(THROWN);
            LineLeases x = Due.atTheLatestTime("lines;handler 1 1;");
            for (int ticks : new int[] {1, 2, 200}) {
                due.thrown("pass(" + ticks + ") at 9999", IllegalArgumentException.class, () -> x.pass(ticks));
            }
            x.undo();
            due.thrown("200 from 9800", IllegalArgumentException.class, () -> x.pass(200));
            due.same("the time stays", 9800, x.state(0));
            x.pass(198);
            due.thrown("2 from 9998", IllegalArgumentException.class, () -> x.pass(2));
            due.same("1 from 9998", 0, x.pass(1));
            due.same("the latest time", 9999, x.state(0));
        }

        private static void answeredInThem() {
            due.sentence("Returns the number of requests that are answered in them.");
            LineLeases x = Due.loaded("lines;handler 0 2;line 0 3 0 0;raise 0 0 1;raise 0 0 2;raise 0 0 1;raise 0 0 4;"
                    + "raise 0 5 2;window 2;");
            due.same("one at 0", 1, x.pass(1));
            due.same("two at 1, and none of those before", 2, x.pass(1));
            due.same("none at 2 to 4, a refused one is not answered", 0, x.pass(3));
            due.same("the last one at 5", 1, x.pass(1));
            due.same("none", 0, x.pass(200));
            LineLeases y = Due.loaded("lines;handler 0 2;line 0 3 0 0;raise 0 0 1;raise 0 0 2;raise 0 0 1;raise 0 0 4;"
                    + "raise 0 5 2;window 2;");
            due.same("all at once", 4, y.pass(200));
            due.same("of nothing", 0, new LineLeases().pass(200));
        }
    }

    private static final class TheRaise {
        static void test() {
            theWork();
            theLast();
            thePresentTime();
            refused();
        }

        private static void theWork() {
            due.sentence("`work`: 1 to 99");
            LineLeases x = Due.loaded("lines;line 0 20 0;");
            due.same("1", 1, x.request(x.raise(0, 1), 5));
            due.same("99", 99, x.request(x.raise(0, 99), 5));
            due.sentence("if work is out of range");
            for (int bad : new int[] {0, 100, -1, -99, Integer.MIN_VALUE, Integer.MAX_VALUE}) {
                due.thrown("raise(0, " + bad + ")", IllegalArgumentException.class, () -> x.raise(0, bad));
            }
            due.same("requests", 2, x.state(3));
        }

        private static void theLast() {
            due.sentence("if there are 60 requests");
            LineLeases x = Due.loaded("lines;line 0 1 0;" + "raise0 0 1;".repeat(59));
            due.same("the 60th", 59, x.raise(0, 1));
            due.thrown("the 61st", IllegalStateException.class, () -> x.raise(0, 1));
            x.undo();
            due.same("the 60th again", 59, x.raise(0, 2));
            due.thrown("the 61st again", IllegalStateException.class, () -> x.raise(0, 1));
            x.pass(1);
            due.thrown("refused ones are requests, too", IllegalStateException.class, () -> x.raise(0, 1));
        }

        private static void thePresentTime() {
            due.sentence("Raises a request behind the others, at the present time.");
            LineLeases x = Due.loaded("lines;handler 9 5;line 0 9 9 0;raise 0 500 3;");
            due.same("behind the others", 1, x.raise(0, 5));
            due.same("at 0", 0, x.request(1, 1));
            due.same("open at once", 1, x.request(1, 3));
            due.same("no work is done yet", 5, x.request(1, 5));
            x.pass(1);
            due.same("in the next tick it is", 0, x.request(1, 6));
            LineLeases y = Due.atTheLatestTime("lines;handler 9 5;line 0 1 9 0;");
            y.raise(0, 5);
            due.same("at the latest time", 9999, y.request(0, 1));
            due.same("another one", 1, y.raise(0, 5));
            due.same("is refused then", 9999, y.request(1, 6));
        }

        private static void refused() {
            due.sentence("Returns its index.");
            LineLeases x = Due.loaded("lines;line 0 1 7;storm 5;");
            due.same("an open one", 0, x.raise(0, 3));
            due.same("a refused one", 1, x.raise(0, 3));
            due.same("it is refused", 3, x.request(1, 3));
            due.same("its storm fine is paid", 5, x.state(4));
            due.same("another one", 2, x.raise(0, 3));
            due.same("what the device has", 7, x.state(4));
        }
    }

    private static final class TheLease {
        private static final String LEASE = "it becomes the last one of its tenants;"
                + " then, in ascending order, the open requests of the line without a holder are assigned.";
        private static final String REFUSED = "This is refused if it is bankrupt, or a tenant of the line already, or "
                + "if there are 3 tenants.";

        static void test() {
            theLastOfItsTenants();
            requestsWithoutAHolder();
            refusedLeases();
            nothingIsDone();
        }

        private static void theLastOfItsTenants() {
            due.sentence(LEASE);
            LineLeases x = Due.loaded("lines;handler 1 1;handler 1 1;handler 1 1;line 0 1 0;");
            int[] order = {2, 0, 1};
            for (int place = 0; place < 3; place++) {
                due.same("none to assign", 0, x.lease(order[place], 0));
                due.same("tenants", place + 1, x.line(0, 3));
                for (int p = 0; p <= place; p++) {
                    due.same("tenant " + p, order[p], x.tenant(0, p));
                }
            }
        }

        private static void requestsWithoutAHolder() {
            due.sentence("Returns the number of requests that are assigned; -1 if this is refused (nothing is done "
                    + "then).");
            LineLeases x = Due.loaded("lines;handler 1 1;handler 1 1;line 0 3 0;line 0 9 0;raise 0 0 5;raise 1 0 5;"
                    + "raise 0 0 6;raise 0 0 7;raise 0 0 8;raise 0 500 9;");
            x.pass(1);
            due.same("3 open ones, neither the refused one nor the one to come", 3, x.lease(0, 0));
            due.same("held", 3, x.handler(0, 3));
            due.same("not that of the other line", -1, x.request(1, 4));
            due.same("the others have a holder: none is assigned", 0, x.lease(1, 0));
            due.same("held by the new one", 0, x.handler(1, 3));
            due.same("that of the other line", 1, x.lease(1, 1));
            due.same("its holder", 1, x.request(1, 4));
        }

        private static void refusedLeases() {
            due.sentence(REFUSED);
            LineLeases x = Due.loaded("lines;handler 0 1;handler 9 1;handler 9 1;handler 9 1;line 1 1 0 0;"
                    + "line 0 1 0 1 2;line 0 1 0;period 1;");
            due.same("a tenant already", -1, x.lease(0, 0));
            due.same("not bankrupt yet", 0, x.lease(0, 2));
            x.pass(1);
            due.same("bankrupt", -1, x.lease(0, 2));
            due.same("bankrupt, of a line that it had", -1, x.lease(0, 0));
            due.same("the third tenant", 0, x.lease(3, 1));
            due.same("tenants", 3, x.line(1, 3));
            x.fund(0, 5);
            due.same("a fourth tenant", -1, x.lease(0, 1));
            due.same("a tenant already, of three", -1, x.lease(1, 1));
            due.same("not bankrupt any more", 0, x.lease(0, 2));
        }

        private static void nothingIsDone() {
            due.sentence("-1 if this is refused (nothing is done then).");
            LineLeases x = Due.loaded("lines;handler 0 1;handler 9 1;handler 9 1;handler 9 1;line 1 1 0 0;"
                    + "line 0 1 0 1 2 3;line 0 1 0;raise 2 0 7;period 1;");
            x.pass(1);
            long before = x.checksum();
            due.same("a bankrupt one", -1, x.lease(0, 2));
            due.same("nothing is done", before, x.checksum());
            due.same("a tenant already", -1, x.lease(2, 1));
            due.same("nothing is done", before, x.checksum());
            due.same("the order stays", 2, x.tenant(1, 1));
            x.fund(0, 1);
            before = x.checksum();
            due.same("a fourth tenant", -1, x.lease(0, 1));
            due.same("nothing is done", before, x.checksum());
        }
    }

    private static final class TheRelease {
        private static final String RELEASE = "it is no tenant of it any more;"
                + " then, in ascending order, the open requests of the line that it holds are assigned anew. This is "
                + "refused if it is no tenant of it.";
        private static final String RETURNS = "Returns the number of requests that are assigned anew (also those that "
                + "have no holder then); -1 if this is refused (nothing is done then).";

        static void test() {
            noTenantAnyMore();
            assignedInAscendingOrder();
            onlyThoseOfTheLine();
            noHolderThen();
            refusedReleases();
        }

        private static void noTenantAnyMore() {
            due.sentence(RELEASE);
            int[][] rest = {{0, 1}, {2, 1}, {2, 0}};
            int[] order = {2, 0, 1};
            for (int gone = 0; gone < 3; gone++) {
                LineLeases x = Due.loaded("lines;handler 1 1;handler 1 1;handler 1 1;line 0 1 0 2 0 1;"
                        + "line 0 1 0 0 1 2;");
                due.same("none to assign", 0, x.release(order[gone], 0));
                due.same("tenants", 2, x.line(0, 3));
                due.same("the first", rest[gone][0], x.tenant(0, 0));
                due.same("the second", rest[gone][1], x.tenant(0, 1));
                due.same("the other line keeps it", 3, x.line(1, 3));
                due.same("it is no tenant", -1, x.release(order[gone], 0));
            }
        }

        private static void assignedInAscendingOrder() {
            due.sentence(RELEASE);
            LineLeases x = Due.loaded("lines;handler 1 1;handler 1 1;handler 1 1;line 0 9 0 0;line 0 9 0 2;"
                    + "raise 0 0 9;raise 0 0 9;raise 0 0 9;raise 1 0 9;");
            x.pass(1);
            x.lease(1, 0);
            x.lease(2, 0);
            due.same("three are assigned", 3, x.release(0, 0));
            due.same("to 1, who has none", 1, x.request(0, 4));
            due.same("to 1, the first of two with one", 1, x.request(1, 4));
            due.same("to 2, who has one", 2, x.request(2, 4));
        }

        private static void onlyThoseOfTheLine() {
            due.sentence(RELEASE);
            LineLeases x = Due.loaded("lines;handler 1 9;handler 1 9;line 0 2 0 0;line 0 9 0 0 1;raise 0 0 9;"
                    + "raise 1 0 50;raise 0 1 99;raise 0 1 9;raise 0 500 9;");
            due.same("handler 0 holds one of line 1", 0, x.request(x.raise(1, 50), 4));
            x.pass(2);
            due.same("the other one of line 1", 1, x.request(1, 4));
            int[] states = {2, 1, 1, 3, 0, 1};
            for (int i = 0; i < states.length; i++) {
                due.same("state of request " + i, states[i], x.request(i, 3));
            }
            due.same("held of line 0", 0, x.request(2, 4));
            due.same("only that is assigned anew", 1, x.release(0, 0));
            due.same("nobody holds it", -1, x.request(2, 4));
            due.same("handler 0 holds that of line 1", 0, x.request(5, 4));
            due.same("handler 1 holds the other one", 1, x.request(1, 4));
            due.same("held by handler 0", 1, x.handler(0, 3));
        }

        private static void noHolderThen() {
            due.sentence(RETURNS);
            LineLeases x = Due.loaded("lines;handler 1 1;line 0 9 0 0;raise 0 0 9;raise 0 0 9;");
            x.pass(1);
            due.same("also those without a holder", 2, x.release(0, 0));
            due.same("no holder", -1, x.request(0, 4));
            due.same("no holder", -1, x.request(1, 4));
            due.same("its work stays", 8, x.request(0, 5));
            due.same("none is held", 0, x.handler(0, 3));
            due.same("back again", 2, x.lease(0, 0));
        }

        private static void refusedReleases() {
            due.sentence(RETURNS);
            LineLeases x = Due.loaded("lines;handler 0 1;handler 9 1;line 1 9 0 0 1;line 0 9 0 1;raise 1 0 9;period "
                    + "1;");
            long before = x.checksum();
            due.same("no tenant of line 1", -1, x.release(0, 1));
            due.same("nothing is done", before, x.checksum());
            x.pass(1);
            before = x.checksum();
            due.same("bankrupt, and so no tenant", -1, x.release(0, 0));
            due.same("nothing is done", before, x.checksum());
            due.same("another tenant", 0, x.release(1, 0));
            due.same("once", -1, x.release(1, 0));
        }
    }

    private static final class TheFund {
        static void test() {
            theCoins();
            aBankruptOne();
        }

        private static void theCoins() {
            due.sentence("`coins`: 1 to 9999");
            LineLeases x = Due.loaded("lines;handler 0 1;handler 9999 1;");
            due.same("1 of 0", 1, x.fund(0, 1));
            due.sentence("Returns its purse then.");
            due.same("9999 of 1", 10000, x.fund(0, 9999));
            due.same("1 of 9999", 10000, x.fund(1, 1));
            due.same("the answer is the purse", 10000, x.handler(1, 0));
            due.same("all coins", 20000, x.state(9));
            due.same("no wage", 0, x.handler(1, 7));
            due.sentence("if coins is out of range");
            for (int bad : new int[] {0, 10000, -1, -9999, Integer.MIN_VALUE, Integer.MAX_VALUE}) {
                due.thrown("fund(0, " + bad + ")", IllegalArgumentException.class, () -> x.fund(0, bad));
            }
            due.same("the purse stays", 10000, x.handler(0, 0));
        }

        private static void aBankruptOne() {
            due.sentence("Puts coins into the purse of a handler; a bankrupt one is not bankrupt any more then.");
            LineLeases x = Due.loaded("lines;handler 3 1;line 4 9 0 0;raise 0 0 90;period 1;");
            x.pass(1);
            due.same("bankrupt", 1, x.handler(0, 2));
            due.same("funded with 1", 1, x.fund(0, 1));
            due.same("not bankrupt", 0, x.handler(0, 2));
            due.same("no tenant", 0, x.handler(0, 4));
            due.same("it holds none", 0, x.handler(0, 3));
            due.same("it may lease", 1, x.lease(0, 0));
            x.undo();
            x.undo();
            due.same("bankrupt again by an undo", 1, x.handler(0, 2));
            due.same("no lease then", -1, x.lease(0, 0));
            x.undo();
            x.undo();
            due.same("and not by another one", 0, x.handler(0, 2));
            due.same("with its purse", 3, x.handler(0, 0));
        }
    }

    private static final class TheUndo {
        static void test() {
            bufferAndOffset();
            offsetOfALoad();
            noneToUndo();
            numbersComeBack();
            rulesComeBack();
        }

        private static final String NOT_AFFECTED = "The input buffer and the error offset are not affected.";

        private static void bufferAndOffset() {
            due.sentence(NOT_AFFECTED);
            LineLeases x = Due.loaded("lines;handler 1 1;");
            Due.append(x, "lines;handler 2 2;");
            x.undo();
            due.same("the buffer has its bytes", 0, x.load(18));
            due.same("the handler", 2, x.handler(0, 0));
            x.undo();
            due.thrown("an undone load does not fill it again", IllegalArgumentException.class, () -> x.load(1));
            due.same("it is empty", 20, x.append(0, 0, 0, 0, 0));
            x.undo();
            due.same("nor does an undo with nothing to undo", 40, x.append(0, 0, 0, 0, 0));
        }

        private static void offsetOfALoad() {
            due.sentence(NOT_AFFECTED);
            LineLeases x = Due.loaded("lines;handler 1 1;");
            x.pass(1);
            Due.load(x, "lines;?");
            x.undo();
            due.same("the offset of the failed load", 6, x.errorOffset());
            x.undo();
            due.same("also behind the undo of a load", 6, x.errorOffset());
            x.undo();
            due.same("and with nothing to undo", 6, x.errorOffset());
            Due.load(x, "lines;");
            x.undo();
            due.same("it does not come back", -1, x.errorOffset());
        }

        private static void noneToUndo() {
            due.sentence("Returns the number of changes that can still be undone;"
                    + " -1 if there was none to undo, and nothing changes then.");
            LineLeases x = new LineLeases();
            due.same("of a new object", -1, x.undo());
            due.same("again", -1, x.undo());
            Due.load(x, "lines;handler 5 5;");
            x.pass(7);
            due.same("1 is left", 1, x.undo());
            due.same("0 are left", 0, x.undo());
            due.same("none", -1, x.undo());
            for (int i = 0; i < 12; i++) {
                x.pass(1);
            }
            for (int i = 0; i < 8; i++) {
                due.same("left", 7 - i, x.undo());
            }
            long before = x.checksum();
            due.same("none", -1, x.undo());
            due.same("nothing changes", before, x.checksum());
            due.same("the time", 4, x.state(0));
        }

        private static void numbersComeBack() {
            due.sentence("Undoes the latest change that is not final and has not been undone.");
            // Handler 0 ends requests, pays fines and rents, and is bankrupt at last; request 3 is refused.
            LineLeases x = Due.loaded("lines;handler 30 3;handler 90 1;line 5 3 90 0 1;line 2 3 9 0;raise 0 0 9;"
                    + "raise 0 0 99;raise 1 0 8;raise 1 0 99;raise 1 2 99;raise 0 3 9;raise 1 3 9;patience 2;period 4;"
                    + "storm 2;wage 2;fine 7;");
            long[] sums = new long[9];
            for (int i = 0; i <= 8; i++) {
                sums[i] = x.checksum();
                if (i < 8) {
                    x.pass(3);
                }
            }
            int[] ends = {x.handler(0, 2), x.handler(0, 5), x.handler(0, 6), x.handler(0, 7), x.state(4), x.state(6),
                    x.state(7)};
            for (int i = 0; i < ends.length; i++) {
                due.holds("number " + i + " became greater", ends[i] > 0);
            }
            for (int i = 7; i >= 0; i--) {
                x.undo();
                due.same("all data before pass " + i, sums[i], x.checksum());
            }
            for (int i = 1; i <= 8; i++) {
                x.pass(3);
                due.same("all data behind pass " + i + " again", sums[i], x.checksum());
            }
        }

        private static void rulesComeBack() {
            due.sentence("Undoes the latest change that is not final and has not been undone.");
            String text = "lines;handler 900 1;line 5 2 90 0;raise 0 0 9;raise 0 0 3;raise 0 3 9;raise 0 4 9;"
                    + "raise 0 4 9;patience 2;window 2;storm 3;period 3;wage 4;fine left*2+held;";
            LineLeases x = Due.loaded(text);
            LineLeases y = Due.loaded(text);
            x.pass(1);
            y.pass(1);
            Due.load(x, "lines;handler 1 20;handler 2 2;line 9 9 9;patience 9;window 9;storm 9;period 9;wage 9;fine "
                    + "9;");
            x.pass(9);
            x.undo();
            x.undo();
            for (int tick = 0; tick < 30; tick++) {
                due.same("as without them at " + tick, y.checksum(), x.checksum());
                x.pass(1);
                y.pass(1);
            }
        }
    }
}
