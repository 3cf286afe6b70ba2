/** The edges of a tick: a test for each sentence of the document that names one. */
final class TickEdgesTest {
    private static final Due due = new Due("TickEdgesTest");

    private static final int TO_COME = 0;
    private static final int OPEN = 1;
    private static final int ANSWERED = 2;
    private static final int REFUSED = 3;

    public static void main(String[] args) {
        TheTick.test();
        TheFine.test();
        TheRents.test();
        due.end();
    }

    private static final class TheTick {
        private static final String COME = "The requests to come with this time are raised, in ascending order.";
        private static final String WORK = "Each handler that is not bankrupt, in ascending order, does work: as many "
                + "units as its speed, at the open requests that it holds, in ascending order: at each one as much as "
                + "is left of it, or of the units.";
        private static final String PROGRESS = "A request at which some work was done has its latest progress at this "
                + "time.";
        private static final String ANSWER = "If nothing is left of its work, it is answered, at this time, and the "
                + "device of its line pays the handler the wage for each unit of its whole work, at most what its "
                + "purse has.";

        static void test() {
            timesToCome();
            raisedInAscendingOrder();
            raisedBeforeTheWork();
            unitsOfTheSpeed();
            unitsOfSeveralRequests();
            handlersInAscendingOrder();
            someWorkOrNone();
            answeredAtThisTime();
            wageOfThePurse();
            wageOfTheWholeWork();
            theTimeOfTheTick();
            theTimeBecomesGreater();
        }

        private static void timesToCome() {
            due.sentence(COME);
            LineLeases x = Due.loaded("lines;line 0 9 0;raise 0 0 1;raise 0 1 1;raise 0 999 1;");
            due.same("time 0 before the tick", TO_COME, x.request(0, 3));
            x.pass(1);
            due.same("time 0 behind it", OPEN, x.request(0, 3));
            due.same("time 1 not yet", TO_COME, x.request(1, 3));
            x.pass(1);
            due.same("time 1 behind its tick", OPEN, x.request(1, 3));
            for (int i = 0; i < 4; i++) {
                x.pass(200);
            }
            x.pass(197);
            due.same("at 999", 999, x.state(0));
            due.same("time 999 before its tick", TO_COME, x.request(2, 3));
            x.pass(1);
            due.same("time 999 behind it", OPEN, x.request(2, 3));
        }

        private static void raisedInAscendingOrder() {
            due.sentence(COME);
            LineLeases x = Due.loaded("lines;line 0 2 0;raise 0 3 1;raise 0 1 1;raise 0 3 1;raise 0 3 1;window 2;");
            x.pass(4);
            int[] want = {OPEN, OPEN, OPEN, REFUSED};
            for (int i = 0; i < want.length; i++) {
                due.same("request " + i, want[i], x.request(i, 3));
            }
        }

        private static void raisedBeforeTheWork() {
            due.sentence(COME);
            LineLeases x = Due.loaded("lines;handler 0 5;line 0 9 0 0;raise 0 2 5;");
            x.pass(3);
            due.same("answered in the tick in which it is raised", 2, x.request(0, 6));
        }

        private static void unitsOfTheSpeed() {
            due.sentence(WORK);
            for (int speed : new int[] {1, 7, 20}) {
                LineLeases x = Due.loaded("lines;handler 0 " + speed + ";line 0 9 0 0;raise 0 0 99;raise 0 0 20;"
                        + "fine 0;");
                x.pass(1);
                due.same("left at speed " + speed, 99 - speed, x.request(0, 5));
                due.same("left of the other one", 20, x.request(1, 5));
                x.pass(98 / speed - 1);
                due.same("open behind " + x.state(0) + " ticks", OPEN, x.request(0, 3));
                x.pass(1);
                due.same("answered behind " + x.state(0) + " ticks", ANSWERED, x.request(0, 3));
            }
        }

        private static void unitsOfSeveralRequests() {
            due.sentence(WORK);
            // Speed 6: one less than the first, just the first, one more; and exactly the first two.
            int[][] works = {{7, 3, 1}, {6, 3, 1}, {5, 3, 1}, {3, 3, 1}, {2, 3, 1}, {2, 2, 1}};
            int[][] left = {{1, 3, 1}, {0, 3, 1}, {0, 2, 1}, {0, 0, 1}, {0, 0, 0}, {0, 0, 0}};
            for (int i = 0; i < works.length; i++) {
                LineLeases x = Due.loaded("lines;handler 0 6;line 0 9 0 0;line 0 9 0 0;raise 1 0 " + works[i][0]
                        + ";raise 0 0 " + works[i][1] + ";raise 1 0 " + works[i][2] + ";");
                x.pass(1);
                for (int request = 0; request < 3; request++) {
                    due.same("case " + i + ", left of " + request, left[i][request], x.request(request, 5));
                    due.same("case " + i + ", state of " + request, left[i][request] == 0 ? ANSWERED : OPEN,
                            x.request(request, 3));
                }
            }
        }

        private static void handlersInAscendingOrder() {
            due.sentence(WORK);
            LineLeases x = Due.loaded("lines;handler 0 9;handler 0 9;line 0 9 7 1 0;raise 0 0 5;raise 0 0 6;");
            x.pass(1);
            due.same("handler 0, who has request 1, is paid first", 6, x.handler(0, 7));
            due.same("handler 1 gets the rest", 1, x.handler(1, 7));
        }

        private static void someWorkOrNone() {
            due.sentence(PROGRESS);
            LineLeases x = Due.loaded("lines;handler 90 3;line 0 9 0 0;line 0 9 0 0;line 0 9 0 0;raise 0 0 2;"
                    + "raise 1 0 9;raise 2 0 9;patience 1;fine line*10;");
            x.pass(1);
            due.same("one unit was done", 8, x.request(1, 5));
            x.pass(1);
            due.same("a fine for request 2 alone", 20, x.handler(0, 5));
            // The last unit of the speed is some work.
            LineLeases y = Due.loaded("lines;handler 90 3;line 0 9 0 0;line 0 9 0 0;line 0 9 0 0;raise 1 0 50;"
                    + "raise 0 1 2;raise 2 1 9;patience 2;fine 1;");
            y.pass(3);
            due.same("no fine in 3 ticks", 0, y.handler(0, 5));
            y.pass(1);
            due.same("two waited since 1", 2, y.handler(0, 5));
        }

        private static void answeredAtThisTime() {
            due.sentence(ANSWER);
            LineLeases x = Due.loaded("lines;handler 0 5;line 0 9 0 0;raise 0 0 14;raise 0 0 1;raise 0 0 1;");
            x.pass(2);
            due.same("4 are left", 4, x.request(0, 5));
            due.same("not answered", -1, x.request(0, 6));
            x.pass(1);
            due.same("answered at 2", 2, x.request(0, 6));
            due.same("with the last unit", 2, x.request(1, 6));
            due.same("no unit for the third", -1, x.request(2, 6));
            due.same("its state", OPEN, x.request(2, 3));
        }

        private static void wageOfThePurse() {
            due.sentence(ANSWER);
            int[] purses = {0, 11, 12, 13};
            int[] paid = {0, 11, 12, 12};
            for (int i = 0; i < purses.length; i++) {
                LineLeases x = Due.loaded("lines;handler 5 9;line 0 9 " + purses[i] + " 0;line 0 9 50 0;raise 0 0 4;"
                        + "wage 3;");
                x.pass(1);
                due.same("the wage of " + purses[i], paid[i], x.handler(0, 7));
                due.same("the purse", 5 + paid[i], x.handler(0, 0));
                due.same("the rest of the device", purses[i] - paid[i], x.line(0, 2));
                due.same("the other device", 50, x.line(1, 2));
                due.same("answered", ANSWERED, x.request(0, 3));
            }
        }

        private static void wageOfTheWholeWork() {
            due.sentence(ANSWER);
            LineLeases x = Due.loaded("lines;handler 0 20;line 0 9 9999 0;raise 0 0 99;wage 99;");
            x.pass(4);
            due.same("nothing before the answer", 0, x.handler(0, 7));
            x.pass(1);
            due.same("the greatest wage", 99 * 99, x.handler(0, 7));
            LineLeases y = Due.loaded("lines;handler 0 20;line 0 9 9999 0;raise 0 0 99;wage 0;");
            y.pass(5);
            due.same("answered", 1, y.state(6));
            due.same("no wage", 0, y.handler(0, 7));
            // The wage is for whoever ends the work, also of what another one did.
            LineLeases z = Due.loaded("lines;handler 0 3;handler 0 3;line 0 9 90 0;raise 0 0 4;wage 2;");
            z.pass(1);
            z.lease(1, 0);
            z.release(0, 0);
            z.pass(1);
            due.same("none for handler 0", 0, z.handler(0, 7));
            due.same("8 for handler 1", 8, z.handler(1, 7));
        }

        private static void theTimeOfTheTick() {
            due.sentence("When a tick passes, the following is done in this order, with the time as it is before:");
            // At 3: refused, answered, fined and rented in one tick; the wage pays the fine, and what is left the rent.
            LineLeases x = Due.loaded("lines;handler 0 2;line 5 1 8 0;line 0 9 0 0;raise 0 0 8;raise 0 3 1;raise 1 0 9;"
                    + "patience 3;period 4;storm 99;fine 6;");
            x.pass(3);
            due.same("no coin yet", 0, x.handler(0, 0));
            due.same("no bankruptcy yet", 0, x.handler(0, 2));
            x.pass(1);
            due.same("first the raise: the storm takes all of the device's coins", 8, x.state(4));
            due.same("refused at 3", 3, x.request(1, 6));
            due.same("then the work: answered at 3, without a wage", 3, x.request(0, 6));
            due.same("no wage is left", 0, x.handler(0, 7));
            due.same("then the fine: bankrupt", 1, x.handler(0, 2));
            due.same("then the rent: nobody is left to pay it", 0, x.handler(0, 6));
            // The same without the storm: the wage of 8 pays the fine of 6, and 2 of the rent.
            LineLeases y = Due.loaded("lines;handler 0 2;line 5 1 8 0;line 0 9 0 0;raise 0 0 8;raise 1 0 9;"
                    + "patience 3;period 4;fine 6;");
            y.pass(4);
            due.same("the wage", 8, y.handler(0, 7));
            due.same("the fine", 6, y.handler(0, 5));
            due.same("the rent", 2, y.handler(0, 6));
            due.same("bankrupt by the rent", 1, y.handler(0, 2));
        }

        private static void theTimeBecomesGreater() {
            due.sentence("The time becomes greater by 1.");
            LineLeases x = new LineLeases();
            for (int i = 1; i <= 3; i++) {
                x.pass(1);
                due.same("the time", i, x.state(0));
            }
        }
    }

    private static final class TheFine {
        private static final String FINED = "For each request in ascending order that is open and has a holder: if its "
                + "latest progress was as many ticks ago as the patience or more, its holder must pay a fine to the "
                + "device of the line, and the time of its latest progress becomes the present time (it does so also "
                + "if the holder is bankrupt by this).";
        private static final String LIMITED = "The fine is the value of the fine expression, limited to the range 0 to "
                + "9999.";
        private static final String WORDS = "In the expression, line is the index of the line, left the work that is "
                + "left, held the number of open requests that the holder holds, and waited the number of ticks since "
                + "the latest progress.";
        private static final String OPERATIONS = "The operations of one sum or term are made from the left to the "
                + "right; the result of each one is limited to the range -1000000 to 1000000.";

        static void test() {
            asManyTicksAsThePatience();
            thePresentTimeThen();
            onlyOpenOnesWithAHolder();
            inAscendingOrder();
            alsoIfBankrupt();
            limitedTo9999();
            theWords();
            heldAtThatMoment();
            divisionByZero();
            fromTheLeftToTheRight();
            resultsAreLimited();
            withoutAFineStatement();
        }

        /** Request 1 waits behind request 0, from 0 on. */
        private static LineLeases waiting(int patience) {
            return Due.loaded("lines;handler 900 1;line 0 9 0 0;line 0 9 0 0;raise 0 0 99;raise 1 0 99;patience "
                    + patience
                    + ";fine line*5;");
        }

        private static void asManyTicksAsThePatience() {
            due.sentence(FINED);
            for (int patience : new int[] {1, 2, 5, 98}) {
                LineLeases x = waiting(patience);
                x.pass(patience);
                due.same("one tick less than the patience " + patience, 0, x.handler(0, 5));
                x.pass(1);
                due.same("as many ticks as the patience " + patience, 5, x.handler(0, 5));
                due.same("the device", 5, x.line(1, 2));
            }
            LineLeases y = waiting(99);
            y.pass(100);
            due.same("the work comes first: request 1 has it at 99", 0, y.handler(0, 5));
            LineLeases z = Due.loaded("lines;handler 900 1;line 0 9 0 0;line 0 9 0 0;raise 0 0 99;raise 0 0 99;"
                    + "raise 1 0 99;patience 99;fine line*5;");
            z.pass(99);
            due.same("98 ticks ago", 0, z.handler(0, 5));
            z.pass(1);
            due.same("99 ticks ago", 5, z.handler(0, 5));
        }

        private static void thePresentTimeThen() {
            due.sentence(FINED);
            for (int patience : new int[] {1, 2, 5}) {
                LineLeases x = waiting(patience);
                for (int fines = 1; fines <= 4; fines++) {
                    x.pass(patience);
                    due.same("before fine " + fines, 5 * (fines - 1), x.handler(0, 5));
                    due.same("fine " + fines, 5 * fines, x.handler(0, 5) + x.finesIn(1));
                }
            }
            // A fine of 0 does so, too: otherwise it would have waited 3 ticks at 3, for a fine of 7.
            LineLeases y = Due.loaded("lines;handler 900 1;line 0 9 0 0;raise 0 0 99;raise 0 0 7;patience 2;"
                    + "fine (waited-2)*7;");
            y.pass(60);
            due.same("it never waits more than 2", 0, y.handler(0, 5));
        }

        private static void onlyOpenOnesWithAHolder() {
            due.sentence(FINED);
            LineLeases x = Due.loaded("lines;handler 900 9;line 0 1 0 0;line 0 9 0;raise 0 0 5;raise 0 0 6;raise 1 0 7;"
                    + "raise 0 999 8;patience 1;fine 3;");
            x.pass(50);
            due.same("an answered, a refused, an unheld one, one to come", 0, x.handler(0, 5));
            due.same("no device got a coin of it", 0, x.line(1, 2) + x.line(0, 2));
        }

        private static void inAscendingOrder() {
            due.sentence(FINED);
            LineLeases x = Due.loaded("lines;handler 7 1;line 0 9 0 0;line 0 9 0 0;line 0 9 0 0;raise 2 0 99;"
                    + "raise 1 0 9;raise 0 0 9;patience 1;fine 4;");
            x.pass(2);
            due.same("request 1 of line 1 comes first", 4, x.line(1, 2));
            due.same("request 2 of line 0 gets the rest", 3, x.line(0, 2));
        }

        private static void alsoIfBankrupt() {
            due.sentence(FINED);
            // At 3 handler 0 is bankrupt by request 3, which falls to handler 1: it waits from 3 on.
            LineLeases x = Due.loaded("lines;handler 2 1;handler 90 1;line 0 9 0 0;line 0 9 0 0 1;line 0 9 0 1;"
                    + "raise 2 0 99;raise 2 0 99;raise 0 0 99;raise 1 0 50;patience 3;fine 5-(line-1)*(line-1)*5;");
            x.pass(3);
            due.same("not yet", 0, x.handler(0, 2));
            x.pass(1);
            due.same("bankrupt", 1, x.handler(0, 2));
            due.same("paid", 2, x.line(1, 2));
            due.holders("it falls to the other", x, 1, 1, -1, 1);
            x.pass(2);
            due.same("no fine at 4 and 5", 0, x.handler(1, 5));
            x.pass(1);
            due.same("a fine at 6", 5, x.handler(1, 5));
            // One that nobody holds then waits from the lease on.
            LineLeases y = Due.loaded("lines;handler 0 1;handler 90 1;line 0 9 0 0;raise 0 0 99;raise 0 0 9;patience 3;"
                    + "fine 5;");
            y.pass(4);
            due.same("nobody", -1, y.request(1, 4));
            y.lease(1, 0);
            due.same("no fine in 3 ticks", 0, y.finesIn(3));
            due.same("a fine in 4 ticks", 5, y.finesIn(4));
        }

        private static void limitedTo9999() {
            due.sentence(LIMITED);
            due.same("0", 0, Due.fineOf("0"));
            due.same("1", 1, Due.fineOf("1"));
            due.same("-1", 0, Due.fineOf("0-1"));
            due.same("9998", 9998, Due.fineOf("9998"));
            due.same("9999", 9999, Due.fineOf("9999"));
            LineLeases x = Due.loaded("lines;handler 9999 1;line 0 9 0 0;raise 0 0 90;raise 0 0 7;patience 1;"
                    + "fine 9999+1;");
            x.fund(0, 1);
            x.pass(2);
            due.same("10000", 9999, x.handler(0, 5));
            due.same("a coin is left", 1, x.handler(0, 0));
            due.same("it is not bankrupt", 0, x.handler(0, 2));
        }

        private static void theWords() {
            due.sentence(WORDS);
            for (int line : new int[] {0, 1, 7}) {
                LineLeases x = Due.loaded("lines;handler 900 5;" + "line 0 9 0 0;".repeat(8) + "raise 0 0 99;"
                        + "raise " + line + " 1 20;patience 2;fine 40+line;");
                x.pass(4);
                due.same("line " + line, 40 + line, x.handler(0, 5));
            }
            due.same("left", 20, Due.fineOf("left"));
            due.same("held", 3, Due.fineOf("held"));
            due.same("waited", 2, Due.fineOf("waited"));
            // Part of the work was done before it waited; the one request that is held counts itself.
            LineLeases y = Due.loaded("lines;handler 9999 3;line 0 9 0;line 0 9 0 0;raise 0 0 99;raise 1 0 20;"
                    + "patience 5;fine left*100+held*10+waited;");
            y.pass(2);
            y.lease(0, 0);
            y.pass(4);
            due.same("the work of 1 is 4 ticks ago at 5", 0, y.handler(0, 5));
            y.pass(1);
            due.same("14 left, 2 held, 5 waited", 1425, y.handler(0, 5));
        }

        private static void heldAtThatMoment() {
            due.sentence(WORDS);
            // At 1 handler 1 is fined for request 1 (it holds 3); then handler 0 is bankrupt by request 3, which falls
            // to handler 1; then handler 1 is fined for request 4 (it holds 4).
            LineLeases x = Due.loaded("lines;handler 0 1;handler 900 1;line 0 9 0 0;line 0 9 0 0 1;line 0 9 0 1;"
                    + "raise 2 0 99;raise 2 0 99;raise 0 0 99;raise 1 0 50;raise 2 0 99;patience 1;fine held;");
            x.pass(2);
            due.same("bankrupt", 1, x.handler(0, 2));
            due.holders("one falls to the other", x, 1, 1, -1, 1, 1);
            due.same("3 and 4", 7, x.handler(1, 5));
        }

        private static void divisionByZero() {
            due.sentence("Division by 0 gives 0.");
            due.same("7/0", 0, Due.fineOf("7/0"));
            due.same("0/0", 5, Due.fineOf("0/0+5"));
            due.same("by what becomes 0", 5, Due.fineOf("5+left/(line-1)"));
            due.same("a negative number by 0", 5, Due.fineOf("5+(0-9)/0"));
            due.same("0 by a number", 5, Due.fineOf("5+0/7"));
            due.same("and on with the 0", 0, Due.fineOf("7/0*9/0"));
        }

        private static void fromTheLeftToTheRight() {
            due.sentence(OPERATIONS);
            due.same("10-3-2", 5, Due.fineOf("10-3-2"));
            due.same("10-3+2", 9, Due.fineOf("10-3+2"));
            due.same("100/10/5", 2, Due.fineOf("100/10/5"));
            due.same("100/10*5", 50, Due.fineOf("100/10*5"));
            due.same("7/2*2", 6, Due.fineOf("7/2*2"));
            due.same("2*7/2", 7, Due.fineOf("2*7/2"));
            due.same("100-20/5*2-1", 91, Due.fineOf("100-20/5*2-1"));
            due.same("10-(3-2)", 9, Due.fineOf("10-(3-2)"));
        }

        private static void resultsAreLimited() {
            due.sentence(OPERATIONS);
            due.same("a sum of 1000000", 1000, Due.fineOf("9999*100+100-9990*100"));
            due.same("a sum of 1000001", 1000, Due.fineOf("9999*100+101-9990*100"));
            due.same("a difference of -1000000", 1000, Due.fineOf("0-9999*100-100+9990*100+2000"));
            due.same("a difference of -1000001", 1000, Due.fineOf("0-9999*100-101+9990*100+2000"));
            due.same("a sum of -1000001", 1000, Due.fineOf("0-9999*100+(0-101)+9990*100+2000"));
            due.same("a difference of 1000001", 1000, Due.fineOf("9999*100-(0-101)-9990*100"));
            due.same("a product of 1000000", 1000, Due.fineOf("1000*1000-9990*100"));
            due.same("a product of 1001000", 1000, Due.fineOf("1001*1000-9990*100"));
            due.same("a product of -1000000", 1000, Due.fineOf("(0-1000)*1000+9990*100+2000"));
            due.same("a product of -1001000", 1000, Due.fineOf("(0-1001)*1000+9990*100+2000"));
            due.same("each one, not the last alone", 1, Due.fineOf("9999*9999/1000/1000"));
            due.same("1000000 * 1000000", 1000, Due.fineOf("9999*9999*(9999*9999)-9990*100"));
            due.same("-1000000 * 1000000", 1000, Due.fineOf("(0-9999)*9999*(9999*9999)+9990*100+2000"));
            due.same("-1000000 * -1000000", 1000, Due.fineOf("(0-9999)*9999*((0-9999)*9999)-9990*100"));
            due.same("1000000 - -1000000", 1000, Due.fineOf("1000*1000-(0-1000)*1000-9990*100"));
            due.same("-1000000 - 1000000", 1000, Due.fineOf("(0-1000)*1000-1000*1000+9990*100+2000"));
        }

        private static void withoutAFineStatement() {
            due.sentence("Without a fine statement the value is left.");
            for (int work : new int[] {1, 99}) {
                LineLeases x = Due.loaded("lines;handler 900 1;line 0 9 0 0;raise 0 0 99;raise 0 0 " + work + ";");
                x.pass(6);
                due.same("the fine of a work of " + work, work, x.handler(0, 5));
            }
        }
    }

    private static final class TheRents {
        private static final String DUE = "If the time + 1 is a multiple of the period, rents are due: for each line "
                + "in ascending order with tenants, the rent is divided by the number of tenants (those at this "
                + "moment); each tenant, in their order, must pay this quotient to the bank, and the first ones, as "
                + "many as are left over by the division, must pay 1 coin more.";
        private static final String NO_CHANGE = "(Who is bankrupt by a payment does not change what the others pay "
                + "for this line; a tenant that leaves the line before it has paid does not pay.)";

        static void test() {
            multiplesOfThePeriod();
            shares();
            theOrderOfTheTenants();
            linesWithoutTenants();
            linesInAscendingOrder();
            tenantsAtThisMoment();
            bankruptInTheirOrder();
            theOthersPayTheSame();
            whoLeftDoesNotPay();
        }

        private static void multiplesOfThePeriod() {
            due.sentence(DUE);
            for (int period : new int[] {1, 2, 10, 99}) {
                LineLeases x = Due.loaded("lines;handler 900 1;line 7 1 0 0;period " + period + ";");
                for (int times = 1; times <= 3; times++) {
                    if (period > 1) {
                        x.pass(period - 1);
                        due.same("one tick before " + period * times, 7 * (times - 1), x.state(4));
                    }
                    x.pass(1);
                    due.same("at " + period * times, 7 * times, x.state(4));
                }
            }
        }

        private static void shares() {
            due.sentence(DUE);
            int[] rents = {0, 1, 2, 3, 4, 5, 97, 98, 99};
            int[][] three = {{0, 0, 0}, {1, 0, 0}, {1, 1, 0}, {1, 1, 1}, {2, 1, 1}, {2, 2, 1}, {33, 32, 32}, {33, 33,
                    32},
                    {33, 33, 33}};
            for (int i = 0; i < rents.length; i++) {
                for (int tenants = 1; tenants <= 3; tenants++) {
                    LineLeases x = Due.loaded("lines;handler 99 1;handler 99 1;handler 99 1;line " + rents[i] + " 1 0"
                            + " 0 1 2".substring(0, 2 * tenants) + ";period 1;");
                    x.pass(1);
                    due.same("the bank gets " + rents[i] + " of " + tenants, rents[i], x.state(4));
                    for (int h = 0; h < 3; h++) {
                        int share = h >= tenants ? 0 : tenants == 3 ? three[i][h] : tenants == 1 ? rents[i]
                                : (rents[i] + 1 - h) / 2;
                        due.same("handler " + h + " pays of " + rents[i] + " for " + tenants, share, x.handler(h, 6));
                        due.same("handler " + h + " keeps", 99 - share, x.handler(h, 0));
                    }
                }
            }
        }

        private static void theOrderOfTheTenants() {
            due.sentence(DUE);
            LineLeases x = Due.loaded("lines;handler 99 1;handler 99 1;handler 99 1;line 11 1 0 2 0 1;period 1;");
            x.pass(1);
            due.same("the first one", 4, x.handler(2, 6));
            due.same("the second one", 4, x.handler(0, 6));
            due.same("the last one", 3, x.handler(1, 6));
        }

        private static void linesWithoutTenants() {
            due.sentence(DUE);
            LineLeases x = Due.loaded("lines;handler 99 1;line 50 1 60;line 3 1 60 0;line 50 1 60;period 1;");
            x.pass(1);
            due.same("the bank", 3, x.state(4));
            due.same("the handler", 96, x.handler(0, 0));
            due.same("the devices", 180, x.line(0, 2) + x.line(1, 2) + x.line(2, 2));
        }

        private static void linesInAscendingOrder() {
            due.sentence(DUE);
            // Handler 0 can pay line 0 alone; bankrupt by line 1, it is no tenant of line 2, whose rent is handler 1's.
            LineLeases x = Due.loaded("lines;handler 5 1;handler 50 1;line 4 1 0 0;line 3 1 0 0;line 9 1 0 0 1;"
                    + "period 1;");
            x.pass(1);
            due.same("handler 0 pays 4 and 1", 5, x.handler(0, 6));
            due.same("handler 1 pays all of line 2", 9, x.handler(1, 6));
            // In the other order: 5 of line 0 (4 of 9 for handler 1), nothing of the others.
            LineLeases y = Due.loaded("lines;handler 5 1;handler 50 1;line 9 1 0 0 1;line 3 1 0 0;line 4 1 0 0;"
                    + "period 1;");
            y.pass(1);
            due.same("handler 0 pays 5", 5, y.handler(0, 6));
            due.same("handler 1 pays 4", 4, y.handler(1, 6));
            due.same("bankrupt at line 1", 1, y.handler(0, 2));
        }

        private static void tenantsAtThisMoment() {
            due.sentence(DUE);
            LineLeases x = Due.loaded("lines;handler 50 1;handler 50 1;handler 50 1;line 10 1 0 0 1 2;period 5;");
            x.pass(4);
            x.release(1, 0);
            x.pass(1);
            due.same("who released it pays nothing", 0, x.handler(1, 6));
            due.same("half of it", 5, x.handler(0, 6));
            x.lease(1, 0);
            x.pass(5);
            due.same("the third, now the last", 3, x.handler(1, 6));
            due.same("the first", 5 + 4, x.handler(0, 6));
        }

        private static void bankruptInTheirOrder() {
            due.sentence(DUE);
            // Handler 1 comes first: its request 0 falls to handler 2, so request 1 of handler 0 falls to handler 3.
            LineLeases x = Due.loaded("lines;handler 0 1;handler 0 1;handler 9 1;handler 9 1;line 2 9 0 1 0;"
                    + "line 0 9 0 1;line 0 9 0 0;raise 1 0 50;raise 2 0 50;period 2;");
            x.pass(1);
            x.lease(2, 1);
            x.lease(3, 1);
            x.lease(2, 2);
            x.lease(3, 2);
            x.pass(1);
            due.same("both are bankrupt", 2, x.state(8));
            due.holders("first the one, then the other", x, 2, 3);
        }

        private static void theOthersPayTheSame() {
            due.sentence(NO_CHANGE);
            for (int poor = 0; poor < 3; poor++) {
                LineLeases x = Due.loaded("lines;handler " + (poor == 0 ? 2 : 50) + " 1;handler " + (poor == 1 ? 2 : 50)
                        + " 1;handler " + (poor == 2 ? 2 : 50) + " 1;line 11 1 0 0 1 2;period 1;");
                x.pass(1);
                int[] shares = {4, 4, 3};
                for (int h = 0; h < 3; h++) {
                    due.same("handler " + h + ", poor is " + poor, h == poor ? 2 : shares[h], x.handler(h, 6));
                    due.same("bankrupt: " + h + ", poor is " + poor, h == poor ? 1 : 0, x.handler(h, 2));
                }
            }
        }

        /** Only its own payment makes a tenant leave, so none can leave one line's rent before it has paid that. */
        private static void whoLeftDoesNotPay() {
            due.sentence(NO_CHANGE);
            LineLeases x = Due.loaded("lines;handler 3 1;handler 50 1;line 4 1 0 0;line 8 1 0 1 0;line 7 1 0 0 1;"
                    + "period 1;");
            x.pass(1);
            due.same("handler 0 pays what it has for line 0, and no more", 3, x.handler(0, 6));
            due.same("handler 1 pays the others", 15, x.handler(1, 6));
            due.same("the bank", 18, x.state(4));
            due.same("nothing is lost", 53, x.state(9));
        }
    }
}
