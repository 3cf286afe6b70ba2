/** What the document's terms tell of assigning, raising, payments and the parts of a tick. */
final class TickTest {
    private static final Due due = new Due("TickTest");

    public static void main(String[] args) {
        assigning();
        storms();
        work();
        fines();
        finesOfTheBankrupt();
        fineExpressions();
        rents();
        rentsOfTheBankrupt();
        order();
        due.end();
    }

    private static void holders(LineLeases x, int... want) {
        for (int i = 0; i < want.length; i++) {
            due.same("holder of request " + i + " at " + x.state(0), want[i], x.request(i, 4));
        }
    }

    private static void assigning() {
        // Of all lines: what a handler holds elsewhere counts; of several the first one in the order of the line.
        LineLeases x = Due.loaded("lines;handler 9 1;handler 9 1;handler 9 1;line 0 20 0 1;line 0 20 0 2 1 0;line 0 9 0;"
                + "raise 0 0 9;raise 1 0 9;raise 1 0 9;raise 1 0 9;raise 1 0 9;raise 1 0 9;raise 2 0 9;");
        x.pass(1);
        holders(x, 1, 2, 0, 2, 1, 0, -1);
    }

    private static void storms() {
        // Limit 2 and window 2: at 0 two of three, at 1 none (refused ones count), at 2 one, at 3 one.
        LineLeases x = Due.loaded("lines;line 0 2 25;window 2;storm 10;raise 0 0 1;raise 0 0 1;raise 0 0 1;"
                + "raise 0 1 1;raise 0 3 1;raise 0 3 1;raise 0 3 1;raise 0 5 1;raise 0 5 1;raise 0 6 1;");
        x.pass(7);
        int[] want = {1, 1, 3, 3, 1, 1, 3, 1, 1, 3};
        for (int i = 0; i < want.length; i++) {
            due.same("state of request " + i, want[i], x.request(i, 3));
            due.same("end of request " + i, want[i] == 3 ? x.request(i, 1) : -1, x.request(i, 6));
        }
        due.same("a device pays at most what it has", 0, x.line(0, 2));
        due.same("to the bank", 25, x.state(4));
        // A refused one between: at 1 the one of 1 is refused; at 2 the window holds 1 and 2 alone.
        LineLeases y = Due.loaded("lines;line 0 1 0;window 2;raise 0 0 1;raise 0 1 1;raise 0 2 1;raise 0 4 1;");
        y.pass(5);
        due.same("first", 1, y.request(0, 3));
        due.same("second", 3, y.request(1, 3));
        due.same("a refused one keeps the storm going", 3, y.request(2, 3));
        due.same("until it is out of the window", 1, y.request(3, 3));
    }

    private static void work() {
        // Speed 5 at works 3, 9, 1: answers the first, 2 of the second; then 5; then 2 and the third.
        LineLeases x = Due.loaded("lines;handler 0 5;line 0 9 10 0;raise 0 0 3;raise 0 0 9;raise 0 0 1;wage 2;");
        x.pass(1);
        due.same("answered at once", 0, x.request(0, 6));
        due.same("the rest of the units", 7, x.request(1, 5));
        due.same("none for the third", 1, x.request(2, 5));
        due.same("wage", 6, x.handler(0, 7));
        x.pass(1);
        due.same("5 units more", 2, x.request(1, 5));
        x.pass(1);
        due.same("answered", 2, x.request(1, 6));
        due.same("answered, too", 2, x.request(2, 6));
        due.same("at most what the device has", 10, x.handler(0, 7));
        due.same("in the purse", 10, x.handler(0, 0));
        due.same("the device is empty", 0, x.line(0, 2));
        due.same("it holds none", 0, x.handler(0, 3));
    }

    private static void fines() {
        // Request 1 waits behind request 0: at 3 its progress is 3 ticks ago, and again at 6.
        LineLeases x = Due.loaded("lines;handler 100 1;line 0 9 0 0;line 0 9 0 0;raise 0 0 90;raise 1 0 7;patience 3;");
        x.pass(3);
        due.same("not before", 0, x.handler(0, 5));
        x.pass(1);
        due.same("the value left without a fine statement", 7, x.handler(0, 5));
        due.same("to the device of the line", 7, x.line(1, 2));
        due.same("not to the other one", 0, x.line(0, 2));
        x.pass(2);
        due.same("the time of the latest progress was set", 7, x.handler(0, 5));
        x.pass(1);
        due.same("and again", 14, x.handler(0, 5));
        // Without a holder there are no fines; a lease begins the waiting.
        LineLeases y = Due.loaded("lines;handler 100 1;line 0 9 0;line 0 9 0 0;raise 1 0 90;raise 0 0 5;patience 3;");
        y.pass(50);
        due.same("no holder", 0, y.handler(0, 5));
        y.lease(0, 0);
        y.pass(3);
        due.same("behind the lease", 0, y.handler(0, 5));
        y.pass(1);
        due.same("as many ticks as the patience later", 5, y.handler(0, 5));
    }

    private static void finesOfTheBankrupt() {
        // At 1 handler 0 cannot pay for request 1: requests 0, 1 and 2 fall to handler 1, who pays no fine for them.
        LineLeases x = Due.loaded("lines;handler 2 1;handler 90 1;line 0 9 0 0 1;line 0 9 0 0;raise 0 0 50;raise 1 0 50;"
                + "raise 0 1 50;raise 0 1 50;patience 1;fine 3;");
        x.pass(1);
        holders(x, 0, 0, -1, -1);
        x.pass(1);
        due.same("bankrupt", 1, x.handler(0, 2));
        due.same("paid what it had", 2, x.handler(0, 5));
        due.same("to the device", 2, x.line(1, 2));
        due.same("tenant of no line", 0, x.handler(0, 4));
        due.same("line 0 keeps the other", 1, x.tenant(0, 0));
        holders(x, 1, -1, 1, 1);
        due.same("no fine for those assigned anew", 0, x.handler(1, 5));
        due.same("without a holder", 1, x.line(1, 4));
        x.pass(1);
        due.same("the next tick: fines for all but the one at work", 6, x.handler(1, 5));
        // They are assigned in ascending order, each to the one who holds the fewest then.
        LineLeases y = Due.loaded("lines;handler 0 1;handler 90 1;handler 90 1;line 1 9 0 0;line 0 9 0 2 1;line 0 9 0 1;"
                + "raise 0 0 50;raise 0 0 50;raise 0 0 50;raise 2 0 50;period 1;");
        y.lease(1, 0);
        y.lease(2, 0);
        y.raise(0, 50);
        y.raise(0, 50);
        holders(y, -1, -1, -1, -1, 0, 1);
        y.pass(1);
        due.same("bankrupt by the rent", 1, y.handler(0, 2));
        // Raised: 0 to handler 2, 1 to handler 0 (1 each), 2 to handler 1, 3 to handler 1 (it holds 3 then).
        // Of handler 0, 1 goes to handler 2 (1 of 1 and 3), 4 to handler 2 (2 and 3).
        holders(y, 2, 2, 1, 1, 2, 1);
    }

    private static void fineExpressions() {
        due.same("left", 20, Due.fineOf("left"));
        due.same("line", 1, Due.fineOf("line"));
        due.same("held", 3, Due.fineOf("held"));
        due.same("waited", 2, Due.fineOf("waited"));
        due.same("a number", 17, Due.fineOf("17"));
        due.same("the greatest fine", 9999, Due.fineOf("9999+1"));
        due.same("the least fine", 0, Due.fineOf("1-2"));
        due.same("sums go from the left to the right", 5, Due.fineOf("10-3-2"));
        due.same("terms go from the left to the right", 24, Due.fineOf("100/4 * 2 / 2 - 1"));
        due.same("terms before sums", 14, Due.fineOf("2+3*4"));
        due.same("parentheses before terms", 20, Due.fineOf("(2+3)*4"));
        due.same("parentheses on the right", 9, Due.fineOf("10-(3-2)"));
        due.same("division truncates", 3, Due.fineOf("11/3"));
        due.same("division truncates toward zero", 97, Due.fineOf("100 + (0-11)/3"));
        due.same("division by a negative number truncates toward zero", 97, Due.fineOf("100 + 11/(0-3)"));
        due.same("division by 0", 7, Due.fineOf("7+5/0"));
        due.same("division by 0 in parentheses", 7, Due.fineOf("7+5/(line-1)*3"));
        due.same("the upper limit of a product", 1000, Due.fineOf("9999*9999/1000"));
        due.same("the upper limit of a sum", 1, Due.fineOf("9999*9999+1-9999*9999 + 1"));
        due.same("the lower limit of a product", 5, Due.fineOf("(0-9999)*9999+9999*100+105"));
        due.same("the lower limit of a difference", 0, Due.fineOf("0-9999*9999-5+9999*9999"));
        due.same("no overflow of an int", 1000, Due.fineOf("9999*9999*9999*9999/1000"));
        due.same("no limit of numbers within", 9999, Due.fineOf("9999*100/100"));
        due.same("all of them", 20 * 3 + 2 - 1, Due.fineOf("left*held+waited-line"));
        due.same("the deepest that waits", 6, Due.fineOf("1+1*(1+1*(1+1*(1+1*(1+1*1))))"));
        LineLeases x = Due.loaded("lines;handler 9999 1;line 0 9 0 0;raise 0 0 90;raise 0 0 7;patience 1;fine 9999+1;");
        x.fund(0, 9999);
        due.same("the greatest fine of a rich one", 9999, x.finesIn(2));
        // Handler 0 works at request 0 up to 3; then request 1 has waited 3 ticks, and is the only one that it holds.
        LineLeases y = Due.loaded("lines;handler 500 2;line 0 9 0 0;raise 0 0 8;raise 0 0 19;patience 3;"
                + "fine waited*10+held;");
        due.same("the wait of request 1 at 3", 31, y.finesIn(4));
        y.pass(5);
        due.same("2 units at request 1", 17, y.request(1, 5));
        y.release(0, 0);
        y.pass(20);
        y.lease(0, 0);
        y.raise(0, 50);
        due.same("request 2 waits from 25 to 28, request 1 has the work", 32, y.finesIn(4));
        due.same("4 parentheses", 78, Due.fineOf("1+2*(3+4*(5-6*(7-8*(2-1))*line-line*6)/1-2*(left-1*20)) + 31"));
    }

    private static void rents() {
        // 11 over 3: 4, 4, 3 in the order of the line; 5 over 1; a line without tenants pays nothing.
        LineLeases x = Due.loaded("lines;handler 50 1;handler 50 1;handler 50 1;line 11 1 0 2 0 1;line 5 1 0 1;line 9 1 0;"
                + "period 4;");
        x.pass(3);
        due.same("not before", 0, x.state(4));
        x.pass(1);
        due.same("handler 2", 46, x.handler(2, 0));
        due.same("handler 0", 46, x.handler(0, 0));
        due.same("handler 1", 42, x.handler(1, 0));
        due.same("rents of handler 1", 8, x.handler(1, 6));
        due.same("the bank", 16, x.state(4));
        x.pass(3);
        due.same("once a period", 16, x.state(4));
        x.pass(1);
        due.same("and again", 32, x.state(4));
    }

    private static void rentsOfTheBankrupt() {
        // Handler 0 has 3 of 4: bankrupt at line 0; the others pay as before; at line 1 they are 2.
        LineLeases x = Due.loaded("lines;handler 3 1;handler 50 1;handler 50 1;line 11 1 0 0 1 2;line 7 1 0 2 0 1;period 1;");
        x.pass(1);
        due.same("bankrupt", 1, x.handler(0, 2));
        due.same("its rents", 3, x.handler(0, 6));
        due.same("handler 1: 4 and 3", 7, x.handler(1, 6));
        due.same("handler 2: 3 and 4", 7, x.handler(2, 6));
        due.same("the bank", 17, x.state(4));
        due.same("line 0 has 2 tenants", 2, x.line(0, 3));
        // Who has just enough is not bankrupt; a rent of 0 makes nobody bankrupt.
        LineLeases y = Due.loaded("lines;handler 4 1;handler 0 1;line 4 1 0 0;line 0 1 0 1;period 1;");
        y.pass(1);
        due.same("just enough", 0, y.handler(0, 2));
        due.same("nothing due", 0, y.handler(1, 2));
        y.pass(1);
        due.same("not enough", 1, y.handler(0, 2));
        due.same("still nothing due", 0, y.handler(1, 2));
        // A rent of 2 over 3 tenants: the third has nothing to pay.
        LineLeases z = Due.loaded("lines;handler 0 1;handler 0 1;handler 0 1;line 2 1 0 0 1 2;period 1;");
        z.pass(1);
        due.same("the first", 1, z.handler(0, 2));
        due.same("the second", 1, z.handler(1, 2));
        due.same("the third", 0, z.handler(2, 2));
    }

    private static void order() {
        // Raised at 0, it is worked at in the same tick; the wage comes before the rent of that tick.
        LineLeases x = Due.loaded("lines;handler 0 4;line 4 1 9 0;raise 0 0 4;period 1;");
        x.pass(1);
        due.same("work in the tick of its raising", 0, x.request(0, 6));
        due.same("the wage comes before the rent", 0, x.handler(0, 2));
        due.same("and pays it", 4, x.state(4));
        // A fine that is due comes behind the work of the tick and before the rent.
        LineLeases y = Due.loaded("lines;handler 5 1;line 5 9 0 0;line 0 9 0 0;raise 0 0 2;raise 1 0 5;patience 2;"
                + "period 3;wage 0;fine 5;");
        y.pass(3);
        due.same("work saves from the fine", 0, y.handler(0, 5));
        due.same("the rent", 5, y.handler(0, 6));
        LineLeases z = Due.loaded("lines;handler 5 1;line 5 9 0 0;raise 0 0 9;raise 0 0 9;patience 2;period 3;fine 4;");
        z.pass(3);
        due.same("the fine comes first", 4, z.handler(0, 5));
        due.same("the rent takes the rest", 1, z.handler(0, 6));
        // Handlers work in ascending order: the first one empties the device.
        LineLeases w = Due.loaded("lines;handler 0 9;handler 0 9;line 0 9 7 1 0;raise 0 0 5;raise 0 0 5;");
        w.pass(1);
        due.same("handler 0 is paid first", 5, w.handler(0, 7));
        due.same("handler 1 gets the rest", 2, w.handler(1, 7));
    }
}
