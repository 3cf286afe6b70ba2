import java.math.BigInteger;
import java.util.NoSuchElementException;

/** The edges of promises 5 to 10 and 21: a test for each sentence of the document that names one. */
final class AnswersEdgesTest {
    private static final Due due = new Due("AnswersEdgesTest");

    public static void main(String[] args) {
        TheAnswers.test();
        TheCalm.test();
        TheChecksum.test();
        due.end();
    }

    private static final class TheAnswers {
        private static final String STATE = "0 the time, 1 handlers, 2 lines, 3 requests, 4 the coins of the bank, 5 "
                + "open requests, 6 answered requests, 7 refused requests, 8 handlers that are bankrupt, 9 the sum of "
                + "the bank, all purses of handlers and all device purses";
        private static final String HANDLER = "0 its purse, 1 its speed, 2 1 if it is bankrupt, otherwise 0, 3 the "
                + "number of open requests that it holds, 4 the number of lines of which it is a tenant, 5 the fines "
                + "and 6 the rents that it paid so far, 7 the wages that it got so far";
        private static final String LINE = "0 its rent, 1 its limit, 2 its device purse, 3 the number of its tenants, "
                + "4 the number of its open requests without a holder";
        private static final String REQUEST = "0 its line, 1 its time, 2 its work, 3 its state, 4 its holder (-1 if "
                + "it is not open, or has none), 5 the work that is left (0 unless it is open), 6 the time at which "
                + "it was answered or refused (-1 otherwise)";
        private static final String WHAT = "if what is out of range";

        static void test() {
            whatOutOfRange();
            stateOfAll();
            stateOfGreatSums();
            handlerNumbers();
            handlerLines();
            handlerPaidSoFar();
            lineNumbers();
            lineWithoutHolders();
            places();
            noSuchPlace();
            requestHolder();
            requestLeft();
            requestEnded();
        }

        private static void answers(String what, LineLeases x, int[] want, int kind, int index) {
            for (int i = 0; i < want.length; i++) {
                int got = kind == 0 ? x.state(i) : kind == 1 ? x.handler(index, i) : kind == 2 ? x.line(index, i)
                        : x.request(index, i);
                due.same(what + ", what " + i, want[i], got);
            }
        }

        private static void whatOutOfRange() {
            due.sentence(WHAT);
            LineLeases x = SomeRequests.loaded();
            int[][] bad = {{-1, 10, 11}, {-1, 8, 9}, {-1, 5, 6}, {-1, 7, 8}};
            for (int i = 0; i < 3; i++) {
                int at = i;
                due.thrown("state(" + bad[0][i] + ")", IllegalArgumentException.class, () -> x.state(bad[0][at]));
                due.thrown("handler(1, " + bad[1][i] + ")", IllegalArgumentException.class, () -> x.handler(1,
                        bad[1][at]));
                due.thrown("line(2, " + bad[2][i] + ")", IllegalArgumentException.class, () -> x.line(2, bad[2][at]));
                due.thrown("request(3, " + bad[3][i] + ")", IllegalArgumentException.class, () -> x.request(3,
                        bad[3][at]));
            }
            for (int great : new int[] {Integer.MIN_VALUE, Integer.MAX_VALUE, 1 << 16, 256}) {
                due.thrown("state(" + great + ")", IllegalArgumentException.class, () -> x.state(great));
                due.thrown("handler(0, " + great + ")", IllegalArgumentException.class, () -> x.handler(0, great));
                due.thrown("line(0, " + great + ")", IllegalArgumentException.class, () -> x.line(0, great));
                due.thrown("request(0, " + great + ")", IllegalArgumentException.class, () -> x.request(0, great));
            }
            due.same("the last one of the state", 50 + 60 + 70 + 80 + 90, x.state(9));
            due.same("the last one of a handler", 4, x.handler(0, 7));
            due.same("the last one of a line", 1, x.line(1, 4));
            due.same("the last one of a request", 1, x.request(0, 6));
        }

        private static void stateOfAll() {
            due.sentence(STATE);
            answers("nothing", new LineLeases(), new int[] {0, 0, 0, 0, 0, 0, 0, 0, 0, 0}, 0, 0);
            LineLeases x = Due.loaded("lines;handler 3 3;handler 60 2;handler 5 1;line 9 2 70 0;line 6 1 1;"
                    + "raise 0 0 4;raise 0 0 9;raise 1 1 5;raise 1 1 5;raise 0 2 5;raise 0 900 2;patience 99;period 2;"
                    + "storm 4;");
            answers("at first", x, new int[] {0, 3, 2, 6, 0, 0, 0, 0, 0, 139}, 0, 0);
            x.pass(1);
            // Two open ones of line 0.
            answers("at 1", x, new int[] {1, 3, 2, 6, 0, 2, 0, 0, 0, 139}, 0, 0);
            x.pass(1);
            // One answered, one refused (its device has 1 coin), a rent of 9: handler 0 has 3 and a wage of 4.
            answers("at 2", x, new int[] {2, 3, 2, 6, 8, 2, 1, 1, 1, 139}, 0, 0);
            x.pass(1);
            // The one of 2 is the third of line 0 in the window, and refused: 4 coins.
            answers("at 3", x, new int[] {3, 3, 2, 6, 12, 2, 1, 2, 1, 139}, 0, 0);
            x.fund(0, 1);
            answers("funded", x, new int[] {3, 3, 2, 6, 12, 2, 1, 2, 0, 140}, 0, 0);
        }

        private static void stateOfGreatSums() {
            due.sentence(STATE);
            LineLeases x = Due.loaded("lines;" + "handler 9999 1;".repeat(6) + "line 99 1 9999 0 1 2;".repeat(8)
                    + "period 1;");
            due.same("all purses", 14 * 9999, x.state(9));
            x.pass(1);
            due.same("the bank", 8 * 99, x.state(4));
            due.same("the same sum", 14 * 9999, x.state(9));
            LineLeases y = Due.loaded("lines;handler 0 1;handler 0 1;line 2 1 0 0 1;period 1;");
            y.pass(1);
            due.same("all handlers are bankrupt", 2, y.state(8));
        }

        private static void handlerNumbers() {
            due.sentence(HANDLER);
            LineLeases x = SomeRequests.loaded();
            // At 1 handler 0 ended request 0; handler 1 has done 4 of request 1.
            answers("handler 0", x, new int[] {54, 3, 0, 0, 1, 0, 0, 4}, 1, 0);
            answers("handler 1", x, new int[] {60, 2, 0, 1, 2, 0, 0, 0}, 1, 1);
            x.lease(0, 1);
            answers("handler 0 with a lease", x, new int[] {54, 3, 0, 1, 2, 0, 0, 4}, 1, 0);
        }

        private static void handlerLines() {
            due.sentence(HANDLER);
            LineLeases x = Due.loaded("lines;handler 1 1;" + "line 0 1 0;".repeat(8));
            for (int line = 0; line < 8; line++) {
                due.same("lines", line, x.handler(0, 4));
                x.lease(0, line);
            }
            due.same("all lines", 8, x.handler(0, 4));
            x.release(0, 3);
            due.same("one less", 7, x.handler(0, 4));
        }

        private static void handlerPaidSoFar() {
            due.sentence(HANDLER);
            // Fines of 4 at 1 and 2, a rent of 5 at 2; it has 12: 4 + 4 + 4 of the rent.
            LineLeases x = Due.loaded("lines;handler 12 1;line 5 9 0 0;raise 0 0 99;raise 0 0 9;patience 1;period 3;"
                    + "fine 4;");
            x.pass(1);
            answers("before a fine", x, new int[] {12, 1, 0, 2, 1, 0, 0, 0}, 1, 0);
            x.pass(1);
            answers("a fine", x, new int[] {8, 1, 0, 2, 1, 4, 0, 0}, 1, 0);
            x.pass(1);
            answers("another one, and a part of the rent", x, new int[] {0, 1, 1, 0, 0, 8, 4, 0}, 1, 0);
            x.fund(0, 90);
            answers("they stay when it is not bankrupt any more", x, new int[] {90, 1, 0, 0, 0, 8, 4, 0}, 1, 0);
            x.lease(0, 0);
            x.pass(3);
            answers("and become more", x, new int[] {90 - 8 - 5, 1, 0, 2, 1, 16, 9, 0}, 1, 0);
            due.same("another setup", 2, Due.load(x, "lines;handler 12 1;line 5 9 0 0;raise 0 0 99;raise 0 0 9;"));
            answers("begins anew", x, new int[] {12, 1, 0, 0, 1, 0, 0, 0}, 1, 0);
        }

        private static void lineNumbers() {
            due.sentence(LINE);
            LineLeases x = SomeRequests.loaded();
            answers("line 0", x, new int[] {5, 9, 66, 2, 0}, 2, 0);
            answers("line 1", x, new int[] {6, 9, 80, 0, 1}, 2, 1);
            answers("line 2", x, new int[] {7, 9, 90, 1, 0}, 2, 2);
        }

        private static void lineWithoutHolders() {
            due.sentence(LINE);
            LineLeases x = Due.loaded("lines;handler 9 1;line 0 2 0;line 0 2 0;raise 0 0 5;raise 0 0 5;raise 0 0 5;"
                    + "raise 0 50 5;raise 1 0 5;");
            due.same("those to come do not count", 0, x.line(0, 4));
            x.pass(1);
            due.same("open ones do, a refused one does not", 2, x.line(0, 4));
            due.same("of this line alone", 1, x.line(1, 4));
            x.lease(0, 0);
            due.same("those with a holder do not", 0, x.line(0, 4));
            due.same("of another line they do", 1, x.line(1, 4));
            x.pass(5);
            x.release(0, 0);
            due.same("an answered one does not", 1, x.line(0, 4));
        }

        private static LineLeases tenantsFrom0To3() {
            return Due.loaded("lines;handler 1 1;handler 1 1;handler 1 1;line 0 1 0;line 0 1 0 2;line 0 1 0 1 0;"
                    + "line 0 1 0 2 0 1;");
        }

        private static void places() {
            due.sentence("`place`: 0 to the number of its tenants - 1");
            LineLeases x = tenantsFrom0To3();
            int[][] tenants = {{}, {2}, {1, 0}, {2, 0, 1}};
            for (int line = 0; line < 4; line++) {
                for (int place = 0; place < line; place++) {
                    due.same("tenant(" + line + ", " + place + ")", tenants[line][place], x.tenant(line, place));
                }
            }
            x.release(0, 3);
            due.same("behind a release", 1, x.tenant(3, 1));
        }

        private static void noSuchPlace() {
            due.sentence("Throws `NoSuchElementException` if there is no such place");
            LineLeases x = tenantsFrom0To3();
            for (int line = 0; line < 4; line++) {
                int its = line;
                for (int bad : new int[] {-1, line, line + 1, 3, Integer.MIN_VALUE, Integer.MAX_VALUE}) {
                    due.thrown("tenant(" + line + ", " + bad + ")", NoSuchElementException.class, () -> x.tenant(its,
                            bad));
                }
            }
            x.release(0, 3);
            due.thrown("the place that is gone", NoSuchElementException.class, () -> x.tenant(3, 2));
        }

        private static void requestHolder() {
            due.sentence(REQUEST);
            LineLeases x = SomeRequests.loaded();
            answers("answered", x, new int[] {0, 0, 4, 2, -1, 0, 1}, 3, 0);
            answers("open with a holder", x, new int[] {2, 0, 50, 1, 1, 46, -1}, 3, 1);
            answers("open without one", x, new int[] {1, 0, 30, 1, -1, 30, -1}, 3, 2);
            answers("to come", x, new int[] {0, 700, 2, 0, -1, 0, -1}, 3, 3);
            LineLeases y = Due.loaded("lines;handler 1 1;line 0 1 0 0;raise 0 3 7;raise 0 3 8;");
            y.pass(4);
            answers("refused", y, new int[] {0, 3, 8, 3, -1, 0, 3}, 3, 1);
        }

        private static void requestLeft() {
            due.sentence(REQUEST);
            LineLeases x = Due.loaded("lines;handler 1 1;line 0 1 0 0;raise 0 1 3;");
            int[] left = {0, 0, 2, 1, 0, 0};
            for (int time = 0; time < left.length; time++) {
                due.same("left at " + time, left[time], x.request(0, 5));
                x.pass(1);
            }
        }

        private static void requestEnded() {
            due.sentence(REQUEST);
            LineLeases x = Due.loaded("lines;handler 1 9;line 0 1 0 0;raise 0 0 3;raise 0 0 3;");
            due.same("to come", -1, x.request(0, 6));
            x.pass(1);
            due.same("answered at 0", 0, x.request(0, 6));
            due.same("refused at 0", 0, x.request(1, 6));
            due.same("a raise", 2, x.raise(0, 1));
            due.same("is refused at 1", 1, x.request(2, 6));
        }
    }

    private static final class TheCalm {
        private static final String CALM = "Returns how many more requests could be raised on it now, one after the "
                + "other, before one would be refused.";

        static void test() {
            betweenZeroAndTheLimit();
            asManyAsCanBeRaised();
            theWindow();
            refusedOnly();
        }

        private static void betweenZeroAndTheLimit() {
            due.sentence(CALM);
            LineLeases x = Due.loaded("lines;line 0 1 0;line 0 20 0;line 0 3 0;");
            due.same("the least limit", 1, x.calm(0));
            due.same("the greatest limit", 20, x.calm(1));
            for (int raised = 0; raised < 6; raised++) {
                due.same("behind " + raised, Math.max(0, 3 - raised), x.calm(2));
                x.raise(2, 1);
            }
            due.same("never below 0", 0, x.calm(2));
            due.same("another line", 20, x.calm(1));
        }

        private static void asManyAsCanBeRaised() {
            due.sentence(CALM);
            LineLeases x = Due.loaded("lines;line 0 5 0;raise 0 0 1;raise 0 2 1;raise 0 3 1;raise 0 3 1;raise 0 4 1;"
                    + "window 3;");
            for (int time = 0; time < 9; time++) {
                int calm = x.calm(0);
                for (int i = 0; i < calm; i++) {
                    due.same("raise " + i + " of " + calm + " at " + time, 1, x.request(x.raise(0, 1), 3));
                }
                due.same("one more at " + time, 3, x.request(x.raise(0, 1), 3));
                for (int i = 0; i <= calm; i++) {
                    x.undo();
                }
                due.same("calm again", calm, x.calm(0));
                x.pass(1);
            }
        }

        private static void theWindow() {
            due.sentence(CALM);
            LineLeases x = Due.loaded("lines;line 0 2 0;raise 0 0 1;raise 0 1 1;raise 0 1 1;raise 0 9 1;window 3;");
            int[] calm = {2, 1, 0, 0, 2, 2, 2, 2, 2, 2, 1, 1, 2};
            for (int time = 0; time < calm.length; time++) {
                due.same("calm at " + time, calm[time], x.calm(0));
                x.pass(1);
            }
        }

        /** That there can be no 61st request is no refusal. */
        private static void refusedOnly() {
            due.sentence(CALM);
            LineLeases x = Due.loaded("lines;line 0 5 0;" + "raise0 0 1;".repeat(59));
            due.same("a request less than there can be", 5, x.calm(0));
            x.raise(0, 1);
            due.same("as many as there can be", 4, x.calm(0));
        }
    }

    private static final class TheChecksum {
        static void test() {
            ofNothing();
            inThisOrder();
        }

        private static final String SUM = "It starts at 0; each number n in the following order replaces it by 31 * "
                + "checksum + n, wrapping around on overflow of a long:";

        private static void ofNothing() {
            due.sentence(SUM);
            due.same("ten zeros", 0, new LineLeases().checksum());
            LineLeases x = new LineLeases();
            x.pass(1);
            long sum = 1;
            for (int i = 0; i < 9; i++) {
                sum *= 31;
            }
            due.same("the time alone", sum, x.checksum());
        }

        private static BigInteger plus(BigInteger sum, long n) {
            return sum.multiply(BigInteger.valueOf(31)).add(BigInteger.valueOf(n));
        }

        /** What the document says, without any limit; its lowest 64 bits are the checksum. */
        private static BigInteger wholeSum(LineLeases x) {
            BigInteger sum = BigInteger.ZERO;
            for (int what = 0; what <= 9; what++) {
                sum = plus(sum, x.state(what));
            }
            for (int i = 0; i < x.state(1); i++) {
                for (int what = 0; what <= 7; what++) {
                    sum = plus(sum, x.handler(i, what));
                }
            }
            for (int i = 0; i < x.state(2); i++) {
                for (int what = 0; what <= 4; what++) {
                    sum = plus(sum, x.line(i, what));
                }
                for (int place = 0; place < x.line(i, 3); place++) {
                    sum = plus(sum, x.tenant(i, place));
                }
            }
            for (int i = 0; i < x.state(3); i++) {
                for (int what = 0; what <= 6; what++) {
                    sum = plus(sum, x.request(i, what));
                }
            }
            return sum;
        }

        private static void inThisOrder() {
            due.sentence("state(0) to state(9); for each handler what handler(int, int) tells of it for 0 to 7;"
                    + " for each line what line(int, int) tells for 0 to 4, and then its tenants; for each request "
                    + "what request(int, int) tells for 0 to 6.");
            LineLeases x = Due.loaded("lines;handler 40 3;handler 50 4;handler 1 1;line 6 7 80 1 0;line 9 10 11;"
                    + "line 3 1 70 2 0 1;raise 0 0 12;raise 2 0 9;raise 1 1 8;raise 2 1 9;raise 0 2 9;patience 1;"
                    + "period 3;fine held;");
            boolean wrapped = false;
            for (int tick = 0; tick < 20; tick++) {
                BigInteger sum = wholeSum(x);
                due.same("at " + tick, sum.longValue(), x.checksum());
                wrapped |= sum.bitLength() > 64;
                x.pass(1);
            }
            due.holds("it wraps around", wrapped);
        }
    }
}
