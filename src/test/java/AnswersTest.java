import java.util.NoSuchElementException;

/** Promises 5 to 10 and 21: state, handler, line, tenant, request, calm, checksum. */
final class AnswersTest {
    private static final Due due = new Due("AnswersTest");

    // Handler 0 is rich, 1 can pay nothing, 2 is a tenant of no line. Window 4.
    private static final String TEXT = "lines;handler 100 3;handler 0 2;handler 7 20;"
            + "line 5 2 30 1 0;line 0 1 4 1;raise 0 0 5;raise 0 1 4;raise 0 2 9;raise 1 0 3;raise 1 500 6;"
            + "window 4;patience 2;storm 6;period 3;wage 2;fine 8;";

    public static void main(String[] args) {
        promise5State();
        promise6Handler();
        promise7Line();
        promise8Tenant();
        promise9Request();
        promise10Calm();
        promise21Checksum();
        due.end();
    }

    private static void states(LineLeases x, long... want) {
        for (int what = 0; what < want.length; what++) {
            due.same("state(" + what + ") at " + x.state(0), want[what], x.state(what));
        }
    }

    private static void handlers(LineLeases x, int handler, long... want) {
        for (int what = 0; what < want.length; what++) {
            due.same("handler(" + handler + ", " + what + ") at " + x.state(0), want[what], x.handler(handler, what));
        }
    }

    private static void lines(LineLeases x, int line, long... want) {
        for (int what = 0; what < want.length; what++) {
            due.same("line(" + line + ", " + what + ") at " + x.state(0), want[what], x.line(line, what));
        }
    }

    private static void requests(LineLeases x, int request, long... want) {
        for (int what = 0; what < want.length; what++) {
            due.same("request(" + request + ", " + what + ") at " + x.state(0), want[what],
                    x.request(request, what));
        }
    }

    /*
     * Tick 0: request 0 to handler 1 (the first of line 0), request 3 to handler 1 (the only one of line 1).
     * Handler 1 works 2 at request 0 (3 left).
     * Tick 1: request 1 to handler 0 (it holds none), who works 3 (1 left); handler 1 works 2 (1 left).
     * Tick 2: request 2 is the third in the window of line 0 with limit 2: refused, its device pays 6 (24 left).
     * Handler 0 answers request 1: 8 coins (108; device 16). Handler 1 answers request 0: 10 coins (10; device 6),
     * and works 1 at request 3 (2 left). Rents of line 0: 5 over 2: handler 1 pays 3 (7), handler 0 pays 2 (106).
     */
    private static void promise5State() {
        LineLeases x = Due.loaded(TEXT);
        states(x, 0, 3, 2, 5, 0, 0, 0, 0, 0, 141);
        x.pass(1);
        states(x, 1, 3, 2, 5, 0, 2, 0, 0, 0, 141);
        x.pass(2);
        states(x, 3, 3, 2, 5, 11, 1, 2, 1, 0, 141);
        x.fund(2, 5);
        states(x, 3, 3, 2, 5, 11, 1, 2, 1, 0, 146);
        LineLeases y = Due.loaded("lines;handler 1 1;handler 0 1;line 2 1 0 0;line 1 1 0 1;period 1;");
        y.pass(1);
        states(y, 1, 2, 2, 0, 1, 0, 0, 0, 2, 1);
        for (int what : new int[] {-1, 10, Integer.MIN_VALUE, Integer.MAX_VALUE}) {
            due.thrown("state(" + what + ")", IllegalArgumentException.class, () -> x.state(what));
        }
    }

    private static void promise6Handler() {
        LineLeases x = Due.loaded(TEXT);
        handlers(x, 0, 100, 3, 0, 0, 1, 0, 0, 0);
        handlers(x, 1, 0, 2, 0, 0, 2, 0, 0, 0);
        handlers(x, 2, 7, 20, 0, 0, 0, 0, 0, 0);
        x.pass(1);
        handlers(x, 1, 0, 2, 0, 2, 2, 0, 0, 0);
        x.pass(2);
        handlers(x, 0, 106, 3, 0, 0, 1, 0, 2, 8);
        handlers(x, 1, 7, 2, 0, 1, 2, 0, 3, 10);
        // Two requests of work 99 wait 2 ticks behind request 3 and another one: a fine of 8, of which it has 7.
        LineLeases y = Due.loaded("lines;handler 7 1;line 0 9 5 0;line 0 9 5 0;raise 0 0 99;raise 1 0 99;"
                + "patience 2;fine 8;");
        y.pass(2);
        handlers(y, 0, 7, 1, 0, 2, 2, 0, 0, 0);
        y.pass(1);
        handlers(y, 0, 0, 1, 1, 0, 0, 7, 0, 0);
        y.fund(0, 3);
        handlers(y, 0, 3, 1, 0, 0, 0, 7, 0, 0);
        // The rent counts with what could be paid, too.
        LineLeases z = Due.loaded("lines;handler 5 1;line 4 9 5 0;period 2;");
        z.pass(4);
        handlers(z, 0, 0, 1, 1, 0, 0, 0, 5, 0);
        for (int handler : new int[] {-1, 3, Integer.MIN_VALUE, Integer.MAX_VALUE}) {
            due.thrown("handler(" + handler + ", 0)", IndexOutOfBoundsException.class, () -> x.handler(handler, 0));
            due.thrown("handler(" + handler + ", 8)", IndexOutOfBoundsException.class, () -> x.handler(handler, 8));
        }
        for (int what : new int[] {-1, 8, Integer.MIN_VALUE, Integer.MAX_VALUE}) {
            due.thrown("handler(0, " + what + ")", IllegalArgumentException.class, () -> x.handler(0, what));
        }
    }

    private static void promise7Line() {
        LineLeases x = Due.loaded(TEXT);
        lines(x, 0, 5, 2, 30, 2, 0);
        lines(x, 1, 0, 1, 4, 1, 0);
        x.pass(3);
        lines(x, 0, 5, 2, 6, 2, 0);
        lines(x, 1, 0, 1, 4, 1, 0);
        x.release(1, 1);
        lines(x, 1, 0, 1, 4, 0, 1);
        LineLeases y = Due.loaded("lines;line 99 20 9999;line 1 2 3;raise 0 0 1;raise 0 0 1;raise 1 0 1;raise 0 9 1;");
        y.pass(1);
        lines(y, 0, 99, 20, 9999, 0, 2);
        lines(y, 1, 1, 2, 3, 0, 1);
        for (int line : new int[] {-1, 2, Integer.MIN_VALUE, Integer.MAX_VALUE}) {
            due.thrown("line(" + line + ", 0)", IndexOutOfBoundsException.class, () -> x.line(line, 0));
            due.thrown("line(" + line + ", 5)", IndexOutOfBoundsException.class, () -> x.line(line, 5));
        }
        for (int what : new int[] {-1, 5, Integer.MIN_VALUE, Integer.MAX_VALUE}) {
            due.thrown("line(0, " + what + ")", IllegalArgumentException.class, () -> x.line(0, what));
        }
    }

    private static void promise8Tenant() {
        LineLeases x = Due.loaded(TEXT);
        due.same("tenant(0, 0)", 1, x.tenant(0, 0));
        due.same("tenant(0, 1)", 0, x.tenant(0, 1));
        due.same("tenant(1, 0)", 1, x.tenant(1, 0));
        x.lease(2, 0);
        due.same("tenant(0, 2) behind a lease", 2, x.tenant(0, 2));
        x.release(1, 0);
        due.same("tenant(0, 0) behind a release", 0, x.tenant(0, 0));
        due.same("tenant(0, 1) behind a release", 2, x.tenant(0, 1));
        for (int place : new int[] {-1, 2, 3, Integer.MIN_VALUE, Integer.MAX_VALUE}) {
            due.thrown("tenant(0, " + place + ")", NoSuchElementException.class, () -> x.tenant(0, place));
        }
        for (int line : new int[] {-1, 2, Integer.MIN_VALUE, Integer.MAX_VALUE}) {
            due.thrown("tenant(" + line + ", 0)", IndexOutOfBoundsException.class, () -> x.tenant(line, 0));
            due.thrown("tenant(" + line + ", -1)", IndexOutOfBoundsException.class, () -> x.tenant(line, -1));
        }
    }

    private static void promise9Request() {
        LineLeases x = Due.loaded(TEXT);
        requests(x, 0, 0, 0, 5, 0, -1, 0, -1);
        requests(x, 4, 1, 500, 6, 0, -1, 0, -1);
        x.pass(1);
        requests(x, 0, 0, 0, 5, 1, 1, 3, -1);
        requests(x, 3, 1, 0, 3, 1, 1, 3, -1);
        requests(x, 1, 0, 1, 4, 0, -1, 0, -1);
        x.pass(2);
        requests(x, 0, 0, 0, 5, 2, -1, 0, 2);
        requests(x, 1, 0, 1, 4, 2, -1, 0, 2);
        requests(x, 2, 0, 2, 9, 3, -1, 0, 2);
        requests(x, 3, 1, 0, 3, 1, 1, 2, -1);
        x.release(1, 1);
        requests(x, 3, 1, 0, 3, 1, -1, 2, -1);
        for (int request : new int[] {-1, 5, Integer.MIN_VALUE, Integer.MAX_VALUE}) {
            due.thrown("request(" + request + ", 0)", IndexOutOfBoundsException.class, () -> x.request(request, 0));
            due.thrown("request(" + request + ", 7)", IndexOutOfBoundsException.class, () -> x.request(request, 7));
        }
        for (int what : new int[] {-1, 7, Integer.MIN_VALUE, Integer.MAX_VALUE}) {
            due.thrown("request(0, " + what + ")", IllegalArgumentException.class, () -> x.request(0, what));
        }
    }

    private static void promise10Calm() {
        LineLeases x = Due.loaded("lines;line 0 3 50;line 0 20 0;raise 0 0 1;raise 0 1 1;raise 0 1 1;raise 0 1 1;"
                + "window 3;");
        due.same("those to come do not count", 3, x.calm(0));
        due.same("another line", 20, x.calm(1));
        x.pass(1);
        due.same("one was raised", 2, x.calm(0));
        x.pass(1);
        due.same("refused ones count, too; it is never negative", 0, x.calm(0));
        due.same("one was refused", 1, x.state(7));
        x.pass(1);
        due.same("at time 3 those raised at 0 are out of the window", 0, x.calm(0));
        due.same("a raise then", 4, x.raise(0, 1));
        due.same("is refused", 3, x.request(4, 3));
        x.pass(1);
        due.same("at time 4 those raised at 1 are out, too", 2, x.calm(0));
        x.raise(0, 1);
        due.same("after a raise", 1, x.calm(0));
        x.raise(0, 1);
        due.same("after another", 0, x.calm(0));
        due.same("which was not refused", 1, x.request(6, 3));
        for (int line : new int[] {-1, 2, Integer.MIN_VALUE, Integer.MAX_VALUE}) {
            due.thrown("calm(" + line + ")", IndexOutOfBoundsException.class, () -> x.calm(line));
        }
    }

    private static long sum(long... numbers) {
        long sum = 0;
        for (long n : numbers) {
            sum = 31 * sum + n;
        }
        return sum;
    }

    private static void promise21Checksum() {
        due.same("without data", 0, new LineLeases().checksum());
        LineLeases x = Due.loaded("lines;handler 40 3;handler 50 4;line 6 7 8 1 0;line 9 10 11;raise 0 0 12;");
        due.same("behind the load", sum(0, 2, 2, 1, 0, 0, 0, 0, 0, 109,
                40, 3, 0, 0, 1, 0, 0, 0, 50, 4, 0, 0, 1, 0, 0, 0,
                6, 7, 8, 2, 0, 1, 0, 9, 10, 11, 0, 0,
                0, 0, 12, 0, -1, 0, -1), x.checksum());
        x.pass(1);
        due.same("behind a tick", sum(1, 2, 2, 1, 0, 1, 0, 0, 0, 109,
                40, 3, 0, 0, 1, 0, 0, 0, 50, 4, 0, 1, 1, 0, 0, 0,
                6, 7, 8, 2, 0, 1, 0, 9, 10, 11, 0, 0,
                0, 0, 12, 1, 1, 8, -1), x.checksum());
    }
}
