/** Promises 11 to 14: endsAt, bankruptIn, finesIn, advise. */
final class PredictionsTest {
    private static final Due due = new Due("PredictionsTest");

    public static void main(String[] args) {
        promise11EndsAt();
        promise12BankruptIn();
        promise13FinesIn();
        promise14Advise();
        nothingChanges();
        due.end();
    }

    private static void promise11EndsAt() {
        LineLeases x = Due.loaded("lines;handler 9 2;line 0 1 50 0;line 0 1 50;raise 0 3 7;raise 0 4 1;raise 1 0 1;"
                + "raise 0 999 4;");
        due.same("3 + 4 ticks, less 1", 6, x.endsAt(0));
        due.same("refused at its time", 4, x.endsAt(1));
        due.same("nobody works", -1, x.endsAt(2));
        due.same("far ahead", 1000, x.endsAt(3));
        x.pass(10);
        due.same("answered before", 6, x.endsAt(0));
        due.same("refused before", 4, x.endsAt(1));
        // 100 works of 11 each at speed 1 would end at 1099; 12 works of 99 end at 1100 in the 1101st tick.
        String rest = "line 0 20 0 0;" + "raise 0 0 99;".repeat(11) + "fine 0;";
        LineLeases y = Due.loaded("lines;handler 0 1;" + rest + "raise 0 0 11;");
        due.same("within 1100 ticks", 1099, y.endsAt(11));
        y = Due.loaded("lines;handler 0 1;" + rest + "raise 0 0 12;");
        due.same("not within 1100 ticks", -1, y.endsAt(11));
        y.pass(1);
        due.same("within 1100 ticks then", 1100, y.endsAt(11));
        for (int request : new int[] {-1, 4, Integer.MIN_VALUE, Integer.MAX_VALUE}) {
            due.thrown("endsAt(" + request + ")", IndexOutOfBoundsException.class, () -> x.endsAt(request));
        }
        // The time may exceed 9999.
        LineLeases z = Due.loaded("lines;handler 0 1;line 0 20 0 0;fine 0;period 98;");
        for (int i = 0; i < 49; i++) {
            z.pass(200);
        }
        z.pass(199);
        due.same("at 9999", 9999, z.state(0));
        z.raise(0, 40);
        due.same("beyond 9999", 10038, z.endsAt(0));
    }

    private static void promise12BankruptIn() {
        LineLeases x = Due.loaded("lines;handler 10 1;handler 0 1;handler 9 1;line 4 1 0 0;line 5 1 0 1;period 3;");
        due.same("the third rent", 9, x.bankruptIn(0));
        due.same("the first rent", 3, x.bankruptIn(1));
        due.same("never", -1, x.bankruptIn(2));
        x.pass(3);
        due.same("it is", 0, x.bankruptIn(1));
        due.same("6 ticks later", 6, x.bankruptIn(0));
        // A rent of 9 each 99 ticks: the 11th one comes in tick 1089, the 12th one in tick 1188.
        LineLeases y = Due.loaded("lines;handler 99 1;handler 91 1;line 9 1 0 0;line 9 1 0 1;period 99;");
        due.same("bankrupt at the 12th rent: not within 1100 ticks", -1, y.bankruptIn(0));
        due.same("at the 11th rent", 1089, y.bankruptIn(1));
        LineLeases z = Due.loaded("lines;handler 99 1;line 9 1 0 0;period 92;");
        due.same("at the 12th rent, 1104 ticks ahead", -1, z.bankruptIn(0));
        z.pass(4);
        due.same("just within 1100 ticks", 1100, z.bankruptIn(0));
        z.undo();
        z.pass(3);
        due.same("just not within 1100 ticks", -1, z.bankruptIn(0));
        for (int handler : new int[] {-1, 3, Integer.MIN_VALUE, Integer.MAX_VALUE}) {
            due.thrown("bankruptIn(" + handler + ")", IndexOutOfBoundsException.class, () -> x.bankruptIn(handler));
        }
    }

    private static void promise13FinesIn() {
        LineLeases x = Due.loaded("lines;handler 11 1;handler 50 1;line 0 9 0 0;line 0 9 0 1;raise 0 0 99;raise 0 0 99;"
                + "raise 1 1 99;raise 1 1 99;patience 2;fine 4;");
        due.same("no ticks", 0, x.finesIn(0));
        due.same("2 ticks", 0, x.finesIn(2));
        due.same("the first fine", 4, x.finesIn(3));
        due.same("another handler's fine", 8, x.finesIn(4));
        due.same("two each", 16, x.finesIn(6));
        due.same("what could be paid counts", 19, x.finesIn(7));
        due.same("1100 ticks", 61, x.finesIn(1100));
        x.pass(3);
        due.same("those that were paid do not count", 4, x.finesIn(1));
        for (int ticks : new int[] {-1, 1101, Integer.MIN_VALUE, Integer.MAX_VALUE}) {
            due.thrown("finesIn(" + ticks + ")", IllegalArgumentException.class, () -> x.finesIn(ticks));
        }
    }

    private static void promise14Advise() {
        // Line 0 is slow with handler 0; 1 and 3 are alike fast, 2 is slower, 4 is fast but bankrupt.
        LineLeases x = Due.loaded("lines;handler 900 1;handler 9 9;handler 9 2;handler 9 9;handler 0 20;line 0 9 0 0;"
                + "line 1 9 0 4;line 0 9 0;line 0 9 0 0 1 2;raise 0 1 40;raise 0 1 40;raise 0 1 40;period 1;patience 3;");
        due.same("handler 4 goes bankrupt before it can help", 1, x.advise(0));
        x.pass(1);
        due.same("handler 4 is bankrupt", 1, x.handler(4, 2));
        due.same("the smallest index of the best that can", 1, x.advise(0));
        due.same("a line without requests", -1, x.advise(2));
        due.same("a line with 3 tenants", -1, x.advise(3));
        x.lease(1, 0);
        x.lease(3, 0);
        due.same("3 tenants now", -1, x.advise(0));
        LineLeases w = Due.loaded("lines;handler 9 9;handler 900 1;line 0 9 0 1;raise 0 1 40;raise 0 1 40;raise 0 1 40;");
        due.same("handler 0 is advised, too", 0, w.advise(0));
        // A lease can cost fines where nobody pays one: that is not smaller.
        LineLeases y = Due.loaded("lines;handler 90 1;line 0 9 0;raise 0 0 40;raise 0 0 40;patience 3;");
        due.same("no fines without one", -1, y.advise(0));
        // 100 ticks are looked at: the fine at 100 is beyond them, the one at 99 within.
        LineLeases z = Due.loaded("lines;handler 9 1;handler 9 20;line 0 9 0 0;raise 0 0 99;raise 0 0 99;raise 0 0 99;"
                + "patience 99;fine 1;");
        due.same("within 100 ticks", 1, z.finesIn(100));
        due.same("advice for it", 1, z.advise(0));
        z = Due.loaded("lines;handler 9 1;handler 9 20;line 0 9 0 0;raise 0 1 99;raise 0 1 99;raise 0 1 99;"
                + "patience 99;fine 1;");
        due.same("beyond 100 ticks", 0, z.finesIn(100));
        due.same("no advice for it", -1, z.advise(0));
        for (int line : new int[] {-1, 4, Integer.MIN_VALUE, Integer.MAX_VALUE}) {
            due.thrown("advise(" + line + ")", IndexOutOfBoundsException.class, () -> x.advise(line));
        }
    }

    private static void nothingChanges() {
        LineLeases x = Due.loaded("lines;handler 20 1;handler 9 4;line 3 2 9 0;line 1 2 9 0;raise 0 0 40;raise 0 0 40;raise 1 2 7;"
                + "patience 3;");
        x.pass(2);
        long before = x.checksum();
        x.endsAt(1);
        x.bankruptIn(0);
        x.finesIn(1100);
        x.advise(0);
        due.same("predictions change nothing", before, x.checksum());
        due.same("and are no changes", 1, x.undo());
    }
}
