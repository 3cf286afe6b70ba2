/** The edges of promises 11 to 14: a test for each sentence of the document that names one. */
final class PredictionsEdgesTest {
    private static final Due due = new Due("PredictionsEdgesTest");

    public static void main(String[] args) {
        TheEnds.test();
        TheBankruptcies.test();
        TheFines.test();
        TheAdvice.test();
        due.end();
    }

    private static final class TheEnds {
        private static final String ENDS = "Returns the time at which it is answered or refused, or was so;"
                + " -1 if this does not happen within 1100 ticks.";

        static void test() {
            within1100Ticks();
            countedFromNow();
            wasSo();
            refusedThen();
            neverEnds();
            beyondTheLatestTime();
        }

        /** Request 11 is answered in tick 1089 + work. */
        private static LineLeases longWork(int work) {
            return Due.loaded("lines;handler 0 1;line 0 20 0 0;" + "raise 0 0 99;".repeat(11) + "raise 0 0 " + work
                    + ";fine 0;");
        }

        private static void within1100Ticks() {
            due.sentence(ENDS);
            due.same("in tick 1099", 1098, longWork(10).endsAt(11));
            due.same("in tick 1100", 1099, longWork(11).endsAt(11));
            due.same("in tick 1101", -1, longWork(12).endsAt(11));
            due.same("in the first tick", 0, Due.loaded("lines;handler 0 1;line 0 1 0 0;raise 0 0 1;").endsAt(0));
        }

        private static void countedFromNow() {
            due.sentence(ENDS);
            LineLeases x = longWork(99);
            x.pass(87);
            due.same("1101 ticks ahead", -1, x.endsAt(11));
            x.pass(1);
            due.same("1100 ticks ahead", 1187, x.endsAt(11));
            for (int i = 0; i < 6; i++) {
                x.pass(200 - 18);
                due.same("at " + x.state(0), 1187, x.endsAt(11));
            }
        }

        private static void wasSo() {
            due.sentence(ENDS);
            LineLeases x = Due.loaded("lines;handler 0 1;line 0 1 0 0;raise 0 0 3;raise 0 2 3;");
            x.pass(200);
            due.same("was answered", 2, x.endsAt(0));
            due.same("was refused", 2, x.endsAt(1));
            x.raise(0, 5);
            due.same("a raise", 3, x.raise(0, 5));
            due.same("is refused now", 200, x.endsAt(3));
        }

        private static void refusedThen() {
            due.sentence(ENDS);
            LineLeases x = Due.loaded("lines;line 0 1 0;raise 0 999 3;raise 0 999 3;");
            due.same("open, and nobody works", -1, x.endsAt(0));
            due.same("refused at the latest time to come", 999, x.endsAt(1));
        }

        private static void neverEnds() {
            due.sentence(ENDS);
            LineLeases x = Due.loaded("lines;handler 0 1;line 1 1 0 0;raise 0 0 99;period 50;");
            due.same("its holder is bankrupt before", -1, x.endsAt(0));
            x.fund(0, 1);
            due.same("and now it is not", 98, x.endsAt(0));
        }

        private static void beyondTheLatestTime() {
            due.sentence("Predicts a request, if nothing but ticks pass (the time may exceed 9999 for this).");
            LineLeases x = Due.atTheLatestTime("lines;handler 0 1;line 0 20 0 0;fine 0;");
            for (int i = 0; i < 11; i++) {
                due.same("a long one", 10000 + 99 * (i + 1) - 2, x.endsAt(x.raise(0, 99)));
            }
            due.same("just within 1100 ticks", 9999 + 1099, x.endsAt(x.raise(0, 11)));
            due.same("beyond them", -1, x.endsAt(x.raise(0, 1)));
            due.same("the time stays", 9999, x.state(0));
        }
    }

    private static final class TheBankruptcies {
        private static final String TICKS = "Returns the number of ticks after which it is bankrupt; 0 if it is;"
                + " -1 if it is not within 1100 ticks.";

        static void test() {
            within1100Ticks();
            itIs();
            never();
            beyondTheLatestTime();
        }

        /** A rent of 1 each period, for which the purse suffices so many times. */
        private static LineLeases renting(int period, int purse) {
            return Due.loaded("lines;handler " + purse + " 1;line 1 1 0 0;period " + period + ";");
        }

        private static void within1100Ticks() {
            due.sentence(TICKS);
            due.same("1 tick", 1, renting(1, 0).bankruptIn(0));
            due.same("2 ticks", 2, renting(2, 0).bankruptIn(0));
            due.same("1099 ticks", 1099, renting(1, 1098).bankruptIn(0));
            due.same("1100 ticks", 1100, renting(1, 1099).bankruptIn(0));
            due.same("1101 ticks", -1, renting(1, 1100).bankruptIn(0));
            LineLeases x = renting(3, 366);
            due.same("1101 ticks by a longer period", -1, x.bankruptIn(0));
            x.pass(1);
            due.same("1100 ticks then", 1100, x.bankruptIn(0));
        }

        private static void itIs() {
            due.sentence(TICKS);
            LineLeases x = renting(5, 0);
            x.pass(4);
            due.same("in one tick", 1, x.bankruptIn(0));
            x.pass(1);
            due.same("it is", 0, x.bankruptIn(0));
            x.pass(100);
            due.same("it still is", 0, x.bankruptIn(0));
            x.fund(0, 1);
            due.same("not any more: it has no line", -1, x.bankruptIn(0));
            x.lease(0, 0);
            due.same("with a line again", 10, x.bankruptIn(0));
        }

        private static void never() {
            due.sentence(TICKS);
            LineLeases x = Due.loaded("lines;handler 0 1;handler 0 1;line 0 1 0 1;period 1;");
            due.same("no tenant, no coins", -1, x.bankruptIn(0));
            due.same("no rent, no coins", -1, x.bankruptIn(1));
        }

        private static void beyondTheLatestTime() {
            due.sentence("Predicts a handler, if nothing but ticks pass (the time may exceed 9999 for this).");
            LineLeases x = Due.atTheLatestTime("lines;handler 9999 1;handler 0 1;line 1 1 0 0;line 7 1 0;period 9;");
            x.lease(1, 1);
            due.same("the next rent is due at 10008", 9, x.bankruptIn(1));
            x.fund(1, 7 * 121);
            due.same("the 122nd one at 11097", 1098, x.bankruptIn(1));
            x.fund(1, 7);
            due.same("the 123rd one is too late", -1, x.bankruptIn(1));
        }
    }

    private static final class TheFines {
        private static final String SUM = "Returns the sum of the fines that all handlers pay in so many ticks.";

        static void test() {
            theTicks();
            thatAllPay();
            thatAreYetToPay();
            beyondTheLatestTime();
        }

        /** Request 12 of line 1 waits for 1188 ticks: a fine of 1 each 7 ticks. */
        private static final String WAITING = "lines;handler 500 1;line 0 20 0 0;line 0 20 0 0;"
                + "raise 0 0 99;".repeat(12)
                + "raise 1 0 5;patience 7;fine line;";

        private static void theTicks() {
            due.sentence("`ticks`: 0 to 1100");
            LineLeases x = Due.loaded(WAITING);
            due.same("0 ticks", 0, x.finesIn(0));
            due.same("7 ticks", 0, x.finesIn(7));
            due.same("8 ticks", 1, x.finesIn(8));
            due.same("1099 ticks", 156, x.finesIn(1099));
            due.same("1100 ticks", 157, x.finesIn(1100));
            due.sentence("if ticks is out of range");
            for (int bad : new int[] {-1, 1101, Integer.MIN_VALUE, Integer.MAX_VALUE}) {
                due.thrown("finesIn(" + bad + ")", IllegalArgumentException.class, () -> x.finesIn(bad));
            }
            due.same("0 ticks of nothing", 0, new LineLeases().finesIn(0));
        }

        private static void thatAllPay() {
            due.sentence(SUM);
            LineLeases x = Due.loaded("lines;handler 5 1;handler 500 1;line 0 9 0 0;line 0 9 0 1;raise 0 0 99;"
                    + "raise 0 0 99;raise 1 0 99;raise 1 0 99;patience 1;fine 3;");
            due.same("none", 0, x.finesIn(1));
            due.same("of both", 6, x.finesIn(2));
            due.same("what the one has, and of the other", 11, x.finesIn(3));
            due.same("of the other alone", 14, x.finesIn(4));
        }

        private static void thatAreYetToPay() {
            due.sentence(SUM);
            LineLeases x = Due.loaded("lines;handler 500 1;line 0 9 0 0;raise 0 0 99;raise 0 0 99;patience 1;fine 3;");
            x.pass(5);
            due.same("paid", 12, x.handler(0, 5));
            due.same("no ticks", 0, x.finesIn(0));
            due.same("one tick", 3, x.finesIn(1));
            due.same("two ticks", 6, x.finesIn(2));
        }

        private static void beyondTheLatestTime() {
            due.sentence("Predicts fines, if nothing but ticks pass (the time may exceed 9999 for this).");
            LineLeases x = Due.atTheLatestTime("lines;handler 9999 1;line 0 20 0 0;patience 50;fine 2;");
            x.raise(0, 99);
            x.raise(0, 99);
            due.same("1 tick", 0, x.finesIn(1));
            due.same("50 ticks", 0, x.finesIn(50));
            due.same("51 ticks", 2, x.finesIn(51));
            due.same("1100 ticks", 2, x.finesIn(1100));
        }
    }

    private static final class TheAdvice {
        private static final String ADVICE = "Returns the handler with which finesIn(100) would be smallest just "
                + "behind the lease, if this is smaller than finesIn(100) is without one;"
                + " of several the one with the smallest index; -1 if there is none.";
        private static final String TRIES = "Advises a line: tries each handler that could lease it now.";

        static void test() {
            theSmallestFines();
            theSmallestIndex();
            onlyIfSmaller();
            within100Ticks();
            whoCouldLease();
            none();
            asItIsSaid();
        }

        /** Handler 0 is the only tenant of line 0, with requests that wait; what the others are is told. */
        private static LineLeases waiting(String others) {
            return Due.loaded("lines;handler 9999 1;" + others + "line 0 9 0 0;line 0 9 0 0;line 1 9 0;raise 1 0 99;"
                    + "raise 0 1 30;raise 0 1 30;raise 0 1 30;patience 3;");
        }

        private static void theSmallestFines() {
            due.sentence(ADVICE);
            String[] others = {"handler 99 1;handler 99 2;handler 99 3;", "handler 99 3;handler 99 2;handler 99 1;",
                    "handler 99 1;handler 99 3;handler 99 2;"};
            int[] best = {3, 1, 2};
            for (int i = 0; i < others.length; i++) {
                // The requests of line 0 come in the tick at 1, when the lease has been made.
                due.same("the fastest of " + others[i], best[i], waiting(others[i]).advise(0));
            }
        }

        private static void theSmallestIndex() {
            due.sentence(ADVICE);
            due.same("three alike", 1, waiting("handler 99 2;handler 99 2;handler 99 2;").advise(0));
            due.same("the last two", 2, waiting("handler 99 1;handler 99 2;handler 99 2;").advise(0));
            due.same("the first and the last", 1, waiting("handler 99 2;handler 99 1;handler 99 2;").advise(0));
            LineLeases x = Due.loaded("lines;handler 9 9;handler 900 1;line 0 9 0 1;raise 0 0 40;raise 0 0 40;"
                    + "raise 0 0 40;");
            due.same("handler 0", 0, x.advise(0));
        }

        private static void onlyIfSmaller() {
            due.sentence(ADVICE);
            LineLeases x = waiting("handler 99 1;");
            due.same("no fine of line 2 becomes smaller", -1, x.advise(2));
            LineLeases y = Due.loaded("lines;handler 99 1;line 0 9 0;raise 0 0 40;raise 0 0 40;patience 3;");
            due.same("with a lease there are fines", -1, y.advise(0));
            // Handler 0 pays all that it has, 5, in any case, and 1 can take nothing of it off.
            LineLeases z = Due.loaded("lines;handler 5 1;handler 9 1;line 0 9 0 0;line 0 9 0 0;raise 1 0 99;"
                    + "raise 1 0 99;patience 1;fine 9;");
            due.same("fines", 5, z.finesIn(100));
            due.same("equal is not smaller", -1, z.advise(0));
            due.same("fewer", 1, Due.loaded("lines;handler 5 1;handler 9 20;line 0 9 0 0;raise 0 1 9;raise 0 1 9;"
                    + "patience 1;fine 1;").advise(0));
        }

        private static LineLeases fineAt(int time) {
            String raise = "raise 0 " + (time - 98) + " 99;";
            return Due.loaded("lines;handler 9 1;handler 9 20;line 0 9 0 0;" + raise + raise + "patience 98;fine 1;");
        }

        private static void within100Ticks() {
            due.sentence(ADVICE);
            LineLeases x = fineAt(99);
            due.same("a fine at 99", 1, x.finesIn(100));
            due.same("is looked at", 1, x.advise(0));
            LineLeases y = fineAt(100);
            due.same("a fine at 100", 0, y.finesIn(100));
            due.same("it is there", 1, y.finesIn(101));
            due.same("is not looked at", -1, y.advise(0));
            y.pass(1);
            due.same("but a tick later", 1, y.advise(0));
        }

        private static void whoCouldLease() {
            due.sentence(TRIES);
            LineLeases x = waiting("handler 0 20;handler 99 2;");
            due.same("the fastest one", 1, x.advise(0));
            x.lease(1, 2);
            due.same("while it is not bankrupt", 1, x.advise(0));
            LineLeases y = Due.loaded("lines;handler 9999 1;handler 0 20;handler 99 2;line 0 9 0 0;line 3 9 0 1;"
                    + "raise 0 1 30;raise 0 1 30;raise 0 1 30;patience 3;period 1;");
            y.pass(1);
            due.same("bankrupt", 1, y.handler(1, 2));
            due.same("a bankrupt one could not", 2, y.advise(0));
            y.fund(1, 1);
            due.same("not bankrupt any more", 1, y.advise(0));
            // A bankrupt one would pay no fines, but it could not lease.
            LineLeases w = Due.loaded("lines;handler 9999 1;handler 0 20;line 0 9 0 0;line 3 9 0 1;raise 0 1 30;"
                    + "raise 0 1 30;raise 0 1 30;patience 3;period 1;");
            due.same("it is bankrupt in the first tick", -1, w.advise(0));
            w.pass(1);
            due.holds("there are fines", w.finesIn(100) > 0);
            due.same("a bankrupt one alone", -1, w.advise(0));
            LineLeases z = waiting("handler 99 1;handler 99 1;handler 99 20;");
            z.lease(1, 0);
            due.holds("2 tenants", z.advise(0) >= 2);
            z.lease(2, 0);
            due.same("3 tenants", -1, z.advise(0));
        }

        private static void none() {
            due.sentence(ADVICE);
            due.same("no handlers", -1, Due.loaded("lines;line 0 1 0;raise 0 0 9;").advise(0));
            due.same("no requests", -1, Due.loaded("lines;handler 9 9;line 0 1 0;").advise(0));
            LineLeases x = waiting("");
            due.holds("there are fines", x.finesIn(100) > 0);
            due.same("only the tenant", -1, x.advise(0));
        }

        private static void asItIsSaid() {
            due.sentence(ADVICE);
            LineLeases x = waiting("handler 20 4;handler 5 7;handler 99 3;handler 0 6;");
            int least = x.finesIn(100);
            int best = -1;
            for (int handler = 0; handler < 5; handler++) {
                int fines = x.lease(handler, 0) < 0 ? least : x.finesIn(100);
                x.undo();
                if (fines < least) {
                    least = fines;
                    best = handler;
                }
            }
            due.holds("there is one", best > 0);
            due.same("as by leases that are undone", best, x.advise(0));
            due.same("it is not leased", 1, x.line(0, 3));
        }
    }
}
