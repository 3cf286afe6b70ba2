/** The edges of the terms up to the payments: a test for each sentence of the document that names one. */
final class TermsEdgesTest {
    private static final Due due = new Due("TermsEdgesTest");

    private static final int TO_COME = 0;
    private static final int OPEN = 1;
    private static final int ANSWERED = 2;
    private static final int REFUSED = 3;

    public static void main(String[] args) {
        the512thCall();
        division();
        limitedNumbers();
        theTimeAtFirst();
        atMost6Handlers();
        numbersOfAHandler();
        aHandlerCanBeBankrupt();
        atMost8Lines();
        numbersOfALine();
        tenantsOfALine();
        atMost60Requests();
        allAtTheirMost();
        numbersOfARequest();
        statesOfARequest();
        holderOrNone();
        TheAssigning.test();
        TheRaising.test();
        ThePayments.test();
        due.end();
    }

    // What it is, Conventions.

    private static void the512thCall() {
        due.sentence("An object is used for at most 512 calls after it has been made");
        LineLeases x = new LineLeases();
        for (int call = 1; call < 512; call++) {
            x.pass(1);
        }
        due.same("the 512th call: state(0)", 511, x.state(0));
        LineLeases y = new LineLeases();
        for (int call = 1; call < 512; call++) {
            y.append(0x20202020, 0x20202020, 0x20202020, 0x20202020, 0x20202020);
        }
        due.same("the 512th call: load(700)", LineLeases.SYNTAX_ERROR, y.load(700));
        LineLeases z = Due.loaded("lines;handler 0 1;");
        for (int call = 3; call < 512; call++) {
            z.fund(0, 9999);
        }
        due.same("the 512th call: fund(0, 9999)", 510 * 9999, z.fund(0, 9999));
    }

    private static void division() {
        due.sentence("Division truncates toward zero.");
        due.same("7/2", 3, Due.fineOf("7/2"));
        due.same("1/2", 0, Due.fineOf("1/2"));
        due.same("-7/2", 100 - 3, Due.fineOf("100+(0-7)/2"));
        due.same("7/-2", 100 - 3, Due.fineOf("100+7/(0-2)"));
        due.same("-7/-2", 3, Due.fineOf("(0-7)/(0-2)"));
        due.same("-1/2", 100, Due.fineOf("100+(0-1)/2"));
    }

    private static void limitedNumbers() {
        due.sentence("A number that is limited to a range becomes the nearer bound if it is outside of it.");
        due.same("the upper bound", 9999, Due.fineOf("9998+1"));
        due.same("above it", 9999, Due.fineOf("9999+1"));
        due.same("far above it", 9999, Due.fineOf("9999*100"));
        due.same("the lower bound", 0, Due.fineOf("1-1"));
        due.same("below it", 0, Due.fineOf("0-1"));
        due.same("far below it", 0, Due.fineOf("0-9999*100"));
    }

    private static void theTimeAtFirst() {
        due.sentence("The time is counted in ticks, 0 at first.");
        LineLeases x = new LineLeases();
        due.same("of a new object", 0, x.state(0));
        x.pass(1);
        due.same("behind a tick", 1, x.state(0));
        x.pass(200);
        due.same("behind 201", 201, x.state(0));
        Due.load(x, "lines;");
        due.same("of a setup", 0, x.state(0));
    }

    // Handlers and lines.

    private static String handlers(int count) {
        StringBuilder text = new StringBuilder("lines;");
        for (int i = 0; i < count; i++) {
            text.append("handler ").append(10 + i).append(' ').append(1 + i).append(';');
        }
        return text.toString();
    }

    private static void atMost6Handlers() {
        due.sentence("There are at most 6 handlers, with indexes from 0.");
        for (int count = 0; count <= 6; count++) {
            LineLeases x = Due.loaded(handlers(count));
            due.same("handlers", count, x.state(1));
            for (int i = 0; i < count; i++) {
                due.same("purse of handler " + i, 10 + i, x.handler(i, 0));
                due.same("speed of handler " + i, 1 + i, x.handler(i, 1));
            }
            int none = count;
            due.thrown("handler " + none, IndexOutOfBoundsException.class, () -> x.handler(none, 0));
            due.thrown("handler -1", IndexOutOfBoundsException.class, () -> x.handler(-1, 0));
        }
        due.refusesAfter(handlers(6), LineLeases.TOO_MANY, "handler 16 7;");
    }

    private static void numbersOfAHandler() {
        due.sentence("A handler has a purse of coins (0 to 9999 at first) and a speed (1 to 20).");
        LineLeases x = Due.loaded("lines;handler 0 1;handler 9999 20;");
        due.same("the least purse", 0, x.handler(0, 0));
        due.same("the least speed", 1, x.handler(0, 1));
        due.same("the greatest purse", 9999, x.handler(1, 0));
        due.same("the greatest speed", 20, x.handler(1, 1));
        due.refusesAfter("lines;handler ", LineLeases.OUT_OF_RANGE, "10000 1;");
        due.refusesAfter("lines;handler 0 ", LineLeases.OUT_OF_RANGE, "0;");
        due.refusesAfter("lines;handler 0 ", LineLeases.OUT_OF_RANGE, "21;");
        due.same("only at first", 10000, x.fund(1, 1));
        LineLeases y = Due.loaded("lines;handler 9999 1;line 0 1 1 0;raise 0 0 1;");
        y.pass(1);
        due.same("a wage beyond it, too", 10000, y.handler(0, 0));
    }

    private static void aHandlerCanBeBankrupt() {
        due.sentence("It can be bankrupt.");
        LineLeases x = Due.loaded("lines;handler 0 1;handler 0 1;line 1 1 0 0;period 1;");
        due.same("not at first, without a coin", 0, x.handler(0, 2));
        x.pass(1);
        due.same("it is", 1, x.handler(0, 2));
        due.same("the other is not", 0, x.handler(1, 2));
        x.pass(200);
        due.same("it stays so", 1, x.handler(0, 2));
    }

    private static String lines(int count) {
        StringBuilder text = new StringBuilder("lines;");
        for (int i = 0; i < count; i++) {
            text.append("line ").append(20 + i).append(' ').append(1 + i).append(' ').append(30 + i).append(';');
        }
        return text.toString();
    }

    private static void atMost8Lines() {
        due.sentence("There are at most 8 lines, with indexes from 0.");
        for (int count = 0; count <= 8; count++) {
            LineLeases x = Due.loaded(lines(count));
            due.same("lines", count, x.state(2));
            for (int i = 0; i < count; i++) {
                due.same("rent of line " + i, 20 + i, x.line(i, 0));
                due.same("limit of line " + i, 1 + i, x.line(i, 1));
                due.same("device purse of line " + i, 30 + i, x.line(i, 2));
            }
            int none = count;
            due.thrown("line " + none, IndexOutOfBoundsException.class, () -> x.line(none, 0));
            due.thrown("line -1", IndexOutOfBoundsException.class, () -> x.line(-1, 0));
        }
        due.refusesAfter(lines(8), LineLeases.TOO_MANY, "line 0 1 0;");
    }

    private static final String A_LINE = "A line has a rent (0 to 99), a limit (1 to 20), a device purse (0 to 9999 at "
            + "first), and at most 3 tenants: different handlers that are not bankrupt, in an order.";

    private static void numbersOfALine() {
        due.sentence(A_LINE);
        LineLeases x = Due.loaded("lines;line 0 1 0;line 99 20 9999;");
        int[] least = {0, 1, 0, 0};
        int[] most = {99, 20, 9999, 0};
        for (int what = 0; what < 4; what++) {
            due.same("the least: line(0, " + what + ")", least[what], x.line(0, what));
            due.same("the greatest: line(1, " + what + ")", most[what], x.line(1, what));
        }
        due.refusesAfter("lines;line ", LineLeases.OUT_OF_RANGE, "100 1 0;");
        due.refusesAfter("lines;line 0 ", LineLeases.OUT_OF_RANGE, "0 0;");
        due.refusesAfter("lines;line 0 ", LineLeases.OUT_OF_RANGE, "21 0;");
        due.refusesAfter("lines;line 0 1 ", LineLeases.OUT_OF_RANGE, "10000;");
        LineLeases y = Due.loaded("lines;handler 9 1;line 0 9 9999 0;raise 0 0 99;raise 0 0 99;patience 1;fine 2;");
        y.pass(2);
        due.same("the device purse is so only at first", 10001, y.line(0, 2));
    }

    private static void tenantsOfALine() {
        due.sentence(A_LINE);
        String text = handlers(4) + "line 0 1 0 3 1 2;line 0 1 0;";
        LineLeases x = Due.loaded(text);
        due.same("3 tenants", 3, x.line(0, 3));
        due.same("in their order: the first", 3, x.tenant(0, 0));
        due.same("in their order: the second", 1, x.tenant(0, 1));
        due.same("in their order: the third", 2, x.tenant(0, 2));
        due.same("no tenants", 0, x.line(1, 3));
        due.refusesAfter(handlers(4) + "line 0 1 0 3 1 2 ", LineLeases.TOO_MANY, "0;");
        due.same("a 4th by a lease", -1, x.lease(0, 0));
        due.same("leases nothing", 3, x.line(0, 3));
        due.refusesAfter(handlers(4) + "line 0 1 0 3 ", LineLeases.REPEATED, "3;");
        x.lease(2, 1);
        due.same("a tenant again by a lease", -1, x.lease(2, 1));
        due.same("is one tenant", 1, x.line(1, 3));
        LineLeases y = Due.loaded("lines;handler 0 1;handler 9 1;line 1 1 0 1 0;line 0 1 0 0;line 0 1 0;period 1;");
        y.fund(1, 50);
        y.pass(1);
        due.same("one coin is due of the first tenant alone", 0, y.handler(0, 2));
        y.release(1, 0);
        y.pass(1);
        due.same("bankrupt", 1, y.handler(0, 2));
        due.same("no tenant of line 0", 0, y.line(0, 3));
        due.same("no tenant of line 1", 0, y.line(1, 3));
        due.same("a bankrupt one gets no lease", -1, y.lease(0, 2));
    }

    // Requests.

    private static void atMost60Requests() {
        due.sentence("There are at most 60 requests, with indexes from 0 in the order in which they are told or "
                + "raised.");
        LineLeases x = Due.loaded("lines;line 0 20 0;line 0 20 0;raise 1 9 5;raise 0 3 6;");
        due.same("the one that was told first", 9, x.request(0, 1));
        due.same("the one that was told then", 3, x.request(1, 1));
        due.same("one is raised", 2, x.raise(1, 7));
        x.pass(10);
        due.same("still the first", 1, x.request(0, 0));
        due.same("still the second", 0, x.request(1, 0));
        due.same("still the third", 7, x.request(2, 2));
        for (int i = 3; i < 60; i++) {
            due.same("one more", i, x.raise(0, 8));
        }
        due.same("60", 60, x.state(3));
        due.same("the last one", 8, x.request(59, 2));
        due.thrown("a 61st", IllegalStateException.class, () -> x.raise(0, 8));
        due.same("still 60", 60, x.state(3));
        due.thrown("request 60", IndexOutOfBoundsException.class, () -> x.request(60, 0));
        due.thrown("request -1", IndexOutOfBoundsException.class, () -> x.request(-1, 0));
        String sixty = "lines;line 0 1 0;" + "raise0 0 1;".repeat(60);
        due.same("60 by a text", 60, Due.load(x, sixty));
        due.refusesAfter(sixty, LineLeases.TOO_MANY, "raise0 0 1;");
    }

    /** 6 handlers, 8 lines with 3 tenants each, and 60 requests. */
    private static void allAtTheirMost() {
        due.sentence("There are at most 60 requests, with indexes from 0 in the order in which they are told or "
                + "raised.");
        StringBuilder text = new StringBuilder("lines;handler0 1;" + "handler99 1;".repeat(4) + "handler99 20;");
        for (int line = 0; line < 8; line++) {
            text.append("line1 20 9 ").append(line % 6).append(' ').append((line + 1) % 6).append(' ').append((line
                    + 5) % 6)
                    .append(';');
        }
        LineLeases x = Due.loaded(text + "patience1;wage0;fine2;");
        for (int i = 0; i < 60; i++) {
            due.same("request " + i, 1, x.request(x.raise(i % 8, 50), 3));
        }
        heldByAll("at first", x, 60);
        due.same("in the second tick 2 coins of 5 handlers, for all but one of their requests", 5 * 9 * 2,
                x.finesIn(2));
        due.same("all coins of all", 5 * 99, x.finesIn(1100));
        due.same("the last request", -1, x.endsAt(59));
        int ticks = x.bankruptIn(5);
        x.pass(ticks - 1);
        due.same("the last handler is not bankrupt yet", 0, x.handler(5, 2));
        x.pass(1);
        due.same("in the next tick it is", 1, x.handler(5, 2));
        x.undo();
        x.undo();
        due.same("lines of handler 0", 5, x.handler(0, 4));
        for (int line = 0; line < 8; line++) {
            due.same("all lines have 3 tenants", -1, x.advise(line));
            x.release(line % 6, line);
            heldByAll("released " + line, x, 60);
            due.same("none is free", 0, x.lease(line % 6, line));
            heldByAll("leased " + line, x, 60);
        }
        x.pass(2);
        due.same("handler 0 is bankrupt", 1, x.handler(0, 2));
        due.same("its requests have other holders", 0, x.handler(0, 3));
        heldByAll("behind a bankruptcy", x, 60);
        x.pass(200);
        due.same("all are bankrupt", 6, x.state(8));
        heldByAll("behind all bankruptcies", x, 0);
        x.fund(5, 9999);
        int free = x.line(7, 4);
        due.same("those of line 7 get a holder again", free, x.lease(5, 7));
        due.same("are held", free, x.handler(5, 3));
        due.same("and answered, until units are left", free, x.pass(20));
    }

    private static void heldByAll(String when, LineLeases x, int want) {
        int held = 0;
        for (int i = 0; i < x.state(1); i++) {
            held += x.handler(i, 3);
        }
        int holders = 0;
        for (int i = 0; i < x.state(3); i++) {
            holders += x.request(i, 4) >= 0 ? 1 : 0;
        }
        due.same(when + ": held by all handlers", want, held);
        due.same(when + ": requests with holders", want, holders);
    }

    private static final String A_REQUEST = "A request has a line, a work (1 to 99), and a state: 0 to come, 1 open, "
            + "2 answered, 3 refused.";

    private static void numbersOfARequest() {
        due.sentence(A_REQUEST);
        LineLeases x = Due.loaded(lines(8) + "raise 0 0 1;raise 7 0 99;");
        due.same("the first line", 0, x.request(0, 0));
        due.same("the least work", 1, x.request(0, 2));
        due.same("the last line", 7, x.request(1, 0));
        due.same("the greatest work", 99, x.request(1, 2));
        due.refusesAfter("lines;line 0 1 0;raise 0 0 ", LineLeases.OUT_OF_RANGE, "0;");
        due.refusesAfter("lines;line 0 1 0;raise 0 0 ", LineLeases.OUT_OF_RANGE, "100;");
        due.same("the least work of a raise", 1, x.request(x.raise(3, 1), 2));
        due.same("the greatest work of a raise", 99, x.request(x.raise(3, 99), 2));
        due.thrown("less", IllegalArgumentException.class, () -> x.raise(3, 0));
        due.thrown("more", IllegalArgumentException.class, () -> x.raise(3, 100));
    }

    private static void statesOfARequest() {
        due.sentence(A_REQUEST);
        LineLeases x = Due.loaded("lines;handler 0 2;line 0 1 0 0;raise 0 1 3;raise 0 1 3;");
        due.same("to come", TO_COME, x.request(0, 3));
        x.pass(1);
        due.same("still to come", TO_COME, x.request(0, 3));
        x.pass(1);
        due.same("open", OPEN, x.request(0, 3));
        due.same("refused", REFUSED, x.request(1, 3));
        x.pass(1);
        due.same("answered", ANSWERED, x.request(0, 3));
        x.pass(50);
        due.same("stays answered", ANSWERED, x.request(0, 3));
        due.same("stays refused", REFUSED, x.request(1, 3));
    }

    private static void holderOrNone() {
        due.sentence("An open request has a holder (a tenant of its line), or none;"
                + " it has work that is left, and a time of its latest progress.");
        LineLeases x = Due.loaded("lines;handler 0 2;line 0 9 0 0;line 0 9 0;raise 0 0 5;raise 1 0 5;");
        x.pass(1);
        due.same("a holder", 0, x.request(0, 4));
        due.same("work is left", 3, x.request(0, 5));
        due.same("none", -1, x.request(1, 4));
        due.same("all is left", 5, x.request(1, 5));
        x.pass(200);
        due.same("nobody works at it", 5, x.request(1, 5));
        due.same("it stays open", OPEN, x.request(1, 3));
    }

    private static final class TheAssigning {
        private static final String TO_ASSIGN = "its holder becomes that tenant of its line that holds the fewest open "
                + "requests (of all lines; of several tenants the first one in the order of the line); without tenants "
                + "it has no holder.";
        private static final String PROGRESS = "The time of its latest progress becomes the present time.";

        static void test() {
            theFewest();
            ofAllLines();
            onlyOpenOnes();
            theFirstOfSeveral();
            noOtherThanTenants();
            withoutTenants();
            progressOfARaisedOne();
            progressOfALease();
            progressOfARelease();
            progressOfABankruptcy();
        }

        private static void theFewest() {
            due.sentence(TO_ASSIGN);
            LineLeases x = Due.loaded(handlers(3) + "line 0 20 0 0 1 2;line 0 20 0 0;line 0 20 0 1;line 0 20 0 2;");
            x.raise(1, 50);
            x.raise(1, 50);
            x.raise(2, 50);
            x.raise(3, 50);
            x.raise(3, 50);
            due.same("one in the middle", 1, x.request(x.raise(0, 50), 4));
            x.raise(2, 50);
            due.same("one less at the first", 0, x.request(x.raise(0, 50), 4));
            x.raise(1, 50);
            due.same("one less at the last", 2, x.request(x.raise(0, 50), 4));
        }

        private static void ofAllLines() {
            due.sentence(TO_ASSIGN);
            LineLeases x = Due.loaded(handlers(2) + "line 0 20 0 0 1;line 0 20 0 0;");
            due.same("request 0", 0, x.request(x.raise(1, 50), 4));
            due.same("handler 0 holds none of line 0, but one of line 1", 1, x.request(x.raise(0, 50), 4));
        }

        private static void onlyOpenOnes() {
            due.sentence(TO_ASSIGN);
            LineLeases x = Due.loaded("lines;handler 9 20;handler 9 1;line 0 20 0 0 1;line 0 20 0 0;line 0 20 0 1;"
                    + "raise 1 0 5;raise 1 0 5;raise 1 0 5;raise 2 0 99;raise 1 9 5;raise 1 9 5;");
            x.pass(1);
            due.same("three are answered", 3, x.state(6));
            due.same("neither answered ones count, nor those to come", 0, x.request(x.raise(0, 50), 4));
        }

        private static void theFirstOfSeveral() {
            due.sentence(TO_ASSIGN);
            LineLeases x = Due.loaded(handlers(3) + "line 0 20 0 2 0 1;");
            x.raise(0, 50);
            x.raise(0, 50);
            x.raise(0, 50);
            x.raise(0, 50);
            due.holders("not the one with the smallest index", x, 2, 0, 1, 2);
            x.release(2, 0);
            x.lease(2, 0);
            due.holders("released: to 0, who comes first, then to 1", x, 0, 0, 1, 1);
            due.same("who leased last has the fewest", 2, x.request(x.raise(0, 50), 4));
            x.raise(0, 50);
            due.same("all hold two: the order is 0, 1, 2 now", 0, x.request(x.raise(0, 50), 4));
        }

        private static void noOtherThanTenants() {
            due.sentence(TO_ASSIGN);
            LineLeases x = Due.loaded(handlers(3) + "line 0 20 0 1;line 0 20 0 0 2;");
            x.raise(0, 50);
            x.raise(0, 50);
            due.holders("handlers 0 and 2 hold none, but are no tenants", x, 1, 1);
        }

        private static void withoutTenants() {
            due.sentence(TO_ASSIGN);
            LineLeases x = Due.loaded(handlers(3) + "line 0 20 0;line 0 20 0 0 1 2;");
            x.raise(0, 50);
            due.holders("nobody", x, -1);
            due.same("one without a holder", 1, x.line(0, 4));
            for (int i = 0; i < 3; i++) {
                due.same("held by " + i, 0, x.handler(i, 3));
            }
        }

        /** Request 1 of work 7 waits behind request 0; its fine of 7 shows when its latest progress was. */
        private static LineLeases waiting() {
            return Due.loaded("lines;handler 500 1;handler 500 1;line 0 9 0 0;line 0 9 0;raise 0 0 99;"
                    + "raise 0 0 99;raise 0 0 99;patience 4;fine line*7;");
        }

        private static void fineAtTick(String what, int tick, LineLeases x) {
            due.same(what + ": no fine in " + (tick - x.state(0)) + " ticks", 0, x.finesIn(tick - x.state(0)));
            due.same(what + ": a fine in one tick more", 7, x.finesIn(tick - x.state(0) + 1));
        }

        private static void progressOfARaisedOne() {
            due.sentence(PROGRESS);
            LineLeases x = waiting();
            x.lease(0, 1);
            x.pass(6);
            x.raise(1, 30);
            fineAtTick("raised at 6", 10, x);
        }

        private static void progressOfALease() {
            due.sentence(PROGRESS);
            LineLeases x = waiting();
            x.raise(1, 30);
            x.pass(15);
            x.lease(0, 1);
            fineAtTick("assigned at 15 by a lease", 19, x);
        }

        private static void progressOfARelease() {
            due.sentence(PROGRESS);
            LineLeases x = waiting();
            x.lease(1, 1);
            x.raise(1, 90);
            x.pass(7);
            x.lease(0, 1);
            x.pass(3);
            x.release(1, 1);
            due.same("holder", 0, x.request(3, 4));
            fineAtTick("assigned at 10 by a release", 14, x);
        }

        private static void progressOfABankruptcy() {
            due.sentence(PROGRESS);
            LineLeases x = Due.loaded("lines;handler 0 1;handler 500 1;line 0 9 0 1;line 0 9 0 0 1;line 3 9 0 0;"
                    + "raise 0 0 99;raise 1 0 90;patience 4;period 7;fine line*7;");
            x.pass(6);
            due.same("holder before", 0, x.request(1, 4));
            x.pass(1);
            due.same("bankrupt in the tick at 6", 1, x.handler(0, 2));
            due.same("holder then", 1, x.request(1, 4));
            fineAtTick("assigned at 6 by a bankruptcy", 10, x);
        }
    }

    private static final class TheRaising {
        private static final String IF_REFUSED = "if the number of requests of this line that were raised at times "
                + "greater than the present time - the window, this one included (refused ones count, too), is greater "
                + "than the limit of the line, it is refused";
        private static final String STORM_FINE = "the device pays the storm fine to the bank, at most what its purse "
                + "has";

        static void test() {
            upToTheLimit();
            overTheWindow();
            refusedOnesCount();
            answeredOnesCount();
            ofThisLineAlone();
            notThoseToCome();
            stormFine();
            stormFineOfNothing();
            otherwiseOpen();
        }

        private static void raises(LineLeases x, int line, int want) {
            due.same("a raise at " + x.state(0), want, x.request(x.raise(line, 9), 3));
        }

        private static void upToTheLimit() {
            due.sentence(IF_REFUSED);
            for (int limit : new int[] {1, 2, 20}) {
                LineLeases x = Due.loaded("lines;line 0 " + limit + " 0;");
                for (int i = 0; i < limit; i++) {
                    raises(x, 0, OPEN);
                }
                raises(x, 0, REFUSED);
                raises(x, 0, REFUSED);
                due.same("open ones", limit, x.state(5));
            }
        }

        private static void overTheWindow() {
            due.sentence(IF_REFUSED);
            for (int window : new int[] {1, 2, 10, 99}) {
                LineLeases x = Due.loaded("lines;line 0 1 0;window " + window + ";");
                raises(x, 0, OPEN);
                x.pass(window);
                raises(x, 0, OPEN);
                x.undo();
                x.undo();
                if (window > 1) {
                    x.pass(window - 1);
                }
                raises(x, 0, REFUSED);
            }
        }

        private static void refusedOnesCount() {
            due.sentence(IF_REFUSED);
            LineLeases x = Due.loaded("lines;line 0 1 0;window 3;");
            raises(x, 0, OPEN);
            x.pass(2);
            raises(x, 0, REFUSED);
            x.pass(2);
            raises(x, 0, REFUSED);
            x.pass(3);
            raises(x, 0, OPEN);
        }

        private static void answeredOnesCount() {
            due.sentence(IF_REFUSED);
            LineLeases x = Due.loaded("lines;handler 0 20;line 0 1 0 0;window 3;");
            raises(x, 0, OPEN);
            x.pass(1);
            due.same("answered", ANSWERED, x.request(0, 3));
            raises(x, 0, REFUSED);
        }

        private static void ofThisLineAlone() {
            due.sentence(IF_REFUSED);
            LineLeases x = Due.loaded("lines;line 0 1 0;line 0 1 0;");
            raises(x, 0, OPEN);
            raises(x, 1, OPEN);
            raises(x, 0, REFUSED);
            raises(x, 1, REFUSED);
        }

        private static void notThoseToCome() {
            due.sentence(IF_REFUSED);
            LineLeases x = Due.loaded("lines;line 0 1 0;raise 0 0 9;raise 0 5 9;window 4;");
            raises(x, 0, OPEN);
            x.pass(1);
            due.same("the told one comes behind it", REFUSED, x.request(0, 3));
            x.pass(3);
            raises(x, 0, OPEN);
            x.pass(2);
            due.same("the one of 5 counts it", REFUSED, x.request(1, 3));
        }

        private static LineLeases refusing(int storm, int purse) {
            LineLeases x = Due.loaded("lines;line 0 1 " + purse + ";line 0 1 77;storm " + storm + ";");
            raises(x, 0, OPEN);
            due.same("no fine for an open one", 0, x.state(4));
            raises(x, 0, REFUSED);
            due.same("the other device pays nothing", 77, x.line(1, 2));
            due.same("no coin is lost", purse + 77, x.state(9));
            return x;
        }

        private static void stormFine() {
            due.sentence(STORM_FINE);
            int[] purses = {9, 10, 11};
            int[] paid = {9, 10, 10};
            for (int i = 0; i < purses.length; i++) {
                LineLeases x = refusing(10, purses[i]);
                due.same("the bank gets of " + purses[i], paid[i], x.state(4));
                due.same("the device keeps of " + purses[i], purses[i] - paid[i], x.line(0, 2));
            }
            due.same("the greatest storm fine", 999, refusing(999, 9999).state(4));
        }

        private static void stormFineOfNothing() {
            due.sentence(STORM_FINE);
            due.same("an empty purse", 0, refusing(10, 0).state(4));
            due.same("no storm fine", 0, refusing(0, 9999).state(4));
        }

        private static void otherwiseOpen() {
            due.sentence("otherwise it is open, with its whole work left, and it is assigned.");
            LineLeases x = Due.loaded(handlers(2) + "line 0 20 0 1 0;raise 0 3 99;");
            int last = x.raise(0, 1);
            due.same("open", OPEN, x.request(last, 3));
            due.same("left", 1, x.request(last, 5));
            due.same("holder", 1, x.request(last, 4));
            x.pass(4);
            due.same("open at 3", OPEN, x.request(0, 3));
            due.same("left but for the work of one tick", 97, x.request(0, 5));
        }
    }

    private static final class ThePayments {
        private static final String MUST_PAY = "If a handler must pay an amount that is greater than its purse, it "
                + "pays all that it has, and it is bankrupt at once: it leaves all lines of which it is a tenant;"
                + " then, in ascending order, the requests that it holds are assigned anew.";
        private static final String GOES_TO = "The amount (or what it could pay) goes to the one that is told.";

        static void test() {
            aFineOfThePurse();
            aRentOfThePurse();
            nothingDue();
            leavesAllLines();
            leavesBeforeTheAssigning();
            assignedInAscendingOrder();
            nobodyIsLeft();
            whoGetsAFine();
            whoGetsARent();
        }

        private static LineLeases fined(int purse) {
            LineLeases x = Due.loaded("lines;handler " + purse + " 1;line 0 9 0 0;line 0 9 40 0;raise 0 0 99;"
                    + "raise 1 0 50;patience 1;fine 6;");
            x.pass(2);
            return x;
        }

        private static void aFineOfThePurse() {
            due.sentence(MUST_PAY);
            int[] purses = {0, 5, 6, 7};
            int[] left = {0, 0, 0, 1};
            for (int i = 0; i < purses.length; i++) {
                LineLeases x = fined(purses[i]);
                due.same("the rest of " + purses[i], left[i], x.handler(0, 0));
                due.same("the fine of " + purses[i], purses[i] - left[i], x.handler(0, 5));
                due.same("bankrupt with " + purses[i], purses[i] < 6 ? 1 : 0, x.handler(0, 2));
                due.same("lines with " + purses[i], purses[i] < 6 ? 0 : 2, x.handler(0, 4));
            }
        }

        private static LineLeases rented(int purse) {
            LineLeases x = Due.loaded("lines;handler " + purse + " 1;line 6 9 40 0;period 1;");
            x.pass(1);
            return x;
        }

        private static void aRentOfThePurse() {
            due.sentence(MUST_PAY);
            int[] purses = {0, 5, 6, 7};
            int[] left = {0, 0, 0, 1};
            for (int i = 0; i < purses.length; i++) {
                LineLeases x = rented(purses[i]);
                due.same("the rest of " + purses[i], left[i], x.handler(0, 0));
                due.same("the rent of " + purses[i], purses[i] - left[i], x.handler(0, 6));
                due.same("bankrupt with " + purses[i], purses[i] < 6 ? 1 : 0, x.handler(0, 2));
                due.same("lines with " + purses[i], purses[i] < 6 ? 0 : 1, x.handler(0, 4));
            }
        }

        private static void nothingDue() {
            due.sentence(MUST_PAY);
            LineLeases x = Due.loaded("lines;handler 0 1;line 0 9 0 0;raise 0 0 99;raise 0 0 99;patience 1;period 1;"
                    + "fine 0;");
            x.pass(50);
            due.same("0 is not greater than an empty purse", 0, x.handler(0, 2));
            due.same("still a tenant", 1, x.line(0, 3));
        }

        private static void leavesAllLines() {
            due.sentence(MUST_PAY);
            LineLeases x = Due.loaded("lines;handler 9 1;handler 0 1;handler 9 1;line 0 1 0 1;line 0 1 0 0 1 2;"
                    + "line 0 1 0 2 0 1;line 1 1 0 1;line 0 1 0 0 2;line 0 1 0;line 0 1 0 1 2;line 0 1 0 1;period 1;");
            due.same("lines before", 6, x.handler(1, 4));
            x.pass(1);
            due.same("bankrupt", 1, x.handler(1, 2));
            due.same("lines then", 0, x.handler(1, 4));
            int[] tenants = {0, 2, 2, 0, 2, 0, 1, 0};
            for (int line = 0; line < 8; line++) {
                due.same("tenants of line " + line, tenants[line], x.line(line, 3));
            }
            due.same("the order stays: 0", 0, x.tenant(1, 0));
            due.same("the order stays: 2", 2, x.tenant(1, 1));
            due.same("the other order stays: 2", 2, x.tenant(2, 0));
            due.same("the other order stays: 0", 0, x.tenant(2, 1));
            due.same("the first one left", 2, x.tenant(6, 0));
        }

        private static void leavesBeforeTheAssigning() {
            due.sentence(MUST_PAY);
            // Handler 0 is bankrupt by line 0; it would hold the fewest of line 1 still, if it had not left that first.
            LineLeases x = Due.loaded("lines;handler 0 1;handler 90 1;line 1 9 0 0;line 0 9 0 0 1;line 0 9 0 1;"
                    + "raise 1 0 9;raise 2 0 50;raise 2 0 50;raise 2 0 50;period 1;");
            x.pass(1);
            due.same("bankrupt", 1, x.handler(0, 2));
            due.holders("all to handler 1", x, 1, 1, 1, 1);
            due.same("held by the bankrupt", 0, x.handler(0, 3));
        }

        private static void assignedInAscendingOrder() {
            due.sentence(MUST_PAY);
            LineLeases x = Due.loaded("lines;handler 0 1;handler 90 1;handler 90 1;line 1 9 0 0;line 0 9 0 0 1 2;"
                    + "line 0 9 0 0;line 0 9 0 1;line 0 9 0 2;raise 3 0 50;raise 4 0 50;raise 1 0 50;raise 1 1 50;"
                    + "raise 2 1 50;period 3;");
            x.raise(1, 50);
            x.pass(2);
            due.holders("before", x, 1, 2, 0, 1, 0, 0);
            due.same("the fewest then: one less at 2", 3, x.handler(0, 3));
            x.pass(1);
            due.same("bankrupt", 1, x.handler(0, 2));
            // 2 to handler 2 (1 held, handler 1 holds 2), then 5 to handler 1 (2 held each); 4 has nobody.
            due.holders("then", x, 1, 2, 2, 1, -1, 1);
        }

        private static void nobodyIsLeft() {
            due.sentence(MUST_PAY);
            LineLeases x = Due.loaded("lines;handler 0 1;line 1 9 0 0;raise 0 0 50;period 1;");
            x.pass(1);
            due.holders("no tenant, no holder", x, -1);
            due.same("without a holder", 1, x.line(0, 4));
            due.same("still open", OPEN, x.request(0, 3));
            due.same("with its work", 49, x.request(0, 5));
        }

        private static void whoGetsAFine() {
            due.sentence(GOES_TO);
            due.same("the device of the line: what could be paid", 45, fined(5).line(1, 2));
            due.same("the device of the line: the amount", 46, fined(7).line(1, 2));
            due.same("not another device", 0, fined(7).line(0, 2));
            due.same("not the bank", 0, fined(7).state(4));
            due.same("no coin is lost", 47, fined(7).state(9));
        }

        private static void whoGetsARent() {
            due.sentence(GOES_TO);
            due.same("the bank: what could be paid", 5, rented(5).state(4));
            due.same("the bank: the amount", 6, rented(7).state(4));
            due.same("not the device", 40, rented(7).line(0, 2));
            due.same("no coin is lost", 47, rented(7).state(9));
        }
    }
}
