/** Promises 15 to 20: pass, raise, lease, release, fund, undo. */
final class ChangesTest {
    private static final Due due = new Due("ChangesTest");

    private static final String TEXT = "lines;handler 20 3;handler 20 2;handler 20 1;handler 5 1;handler 20 1;"
            + "line 0 4 30 0;line 0 20 30;line 0 20 0 0 1 2;raise 0 0 5;raise 0 0 4;raise 0 1 3;raise 1 0 8;raise 1 0 8;"
            + "window 3;storm 7;patience 50;period 50;";

    public static void main(String[] args) {
        promise15Pass();
        promise16Raise();
        promise17Lease();
        promise18Release();
        promise19Fund();
        promise20Undo();
        promise20WhatIsAChange();
        promise20EachChange();
        due.end();
    }

    private static void promise15Pass() {
        LineLeases x = Due.loaded(TEXT);
        due.same("none in 1 tick", 0, x.pass(1));
        due.same("one in the next", 1, x.pass(1));
        due.same("two in the next 200", 2, x.pass(200));
        due.same("the time", 202, x.state(0));
        for (int ticks : new int[] {0, 201, -1, Integer.MIN_VALUE, Integer.MAX_VALUE}) {
            due.thrown("pass(" + ticks + ")", IllegalArgumentException.class, () -> x.pass(ticks));
        }
        due.same("they change nothing", 202, x.state(0));
        LineLeases y = new LineLeases();
        for (int i = 0; i < 49; i++) {
            y.pass(200);
        }
        due.thrown("beyond 9999", IllegalArgumentException.class, () -> y.pass(200));
        due.same("it changes nothing", 9800, y.state(0));
        due.same("up to 9999", 0, y.pass(199));
        due.same("the latest time", 9999, y.state(0));
        due.thrown("one more", IllegalArgumentException.class, () -> y.pass(1));
    }

    private static void promise16Raise() {
        LineLeases x = Due.loaded(TEXT);
        x.pass(2);
        due.same("its index", 5, x.raise(0, 9));
        due.same("its line", 0, x.request(5, 0));
        due.same("its time", 2, x.request(5, 1));
        due.same("its work", 9, x.request(5, 2));
        due.same("open", 1, x.request(5, 3));
        due.same("its holder", 0, x.request(5, 4));
        due.same("its whole work is left", 9, x.request(5, 5));
        due.same("the next one", 6, x.raise(0, 99));
        due.same("is beyond the limit", 3, x.request(6, 3));
        due.same("refused now", 2, x.request(6, 6));
        due.same("nothing is left of it", 0, x.request(6, 5));
        due.same("the device pays 7 (behind 5 for request 0)", 30 - 7 - 5, x.line(0, 2));
        due.same("the bank", 7, x.state(4));
        due.same("without tenants", -1, x.request(x.raise(1, 1), 4));
        due.thrown("raise(3, 1)", IndexOutOfBoundsException.class, () -> x.raise(3, 1));
        due.thrown("raise(-1, 0)", IndexOutOfBoundsException.class, () -> x.raise(-1, 0));
        due.thrown("raise(0, 0)", IllegalArgumentException.class, () -> x.raise(0, 0));
        due.thrown("raise(0, 100)", IllegalArgumentException.class, () -> x.raise(0, 100));
        due.thrown("raise(0, -1)", IllegalArgumentException.class, () -> x.raise(0, Integer.MIN_VALUE));
        for (int i = 8; i < 60; i++) {
            due.same("up to 60", i, x.raise(2, 1));
        }
        due.thrown("a 61st", IllegalStateException.class, () -> x.raise(2, 1));
        due.thrown("a 61st of no work", IllegalArgumentException.class, () -> x.raise(2, 0));
        due.thrown("a 61st of no line", IndexOutOfBoundsException.class, () -> x.raise(3, 0));
        due.same("60 requests", 60, x.state(3));
        // One that is raised by a call before those to come of the same time counts for their storm.
        LineLeases y = Due.loaded("lines;line 0 1 0;raise 0 0 1;");
        y.raise(0, 1);
        y.pass(1);
        due.same("the call's", 1, y.request(1, 3));
        due.same("the told one", 3, y.request(0, 3));
    }

    private static void promise17Lease() {
        LineLeases x = Due.loaded(TEXT);
        x.pass(1);
        due.same("two without a holder", 2, x.lease(1, 1));
        due.same("holder of request 3", 1, x.request(3, 4));
        due.same("holder of request 4", 1, x.request(4, 4));
        due.same("none without a holder", 0, x.lease(2, 1));
        due.same("the last one of the tenants", 2, x.tenant(1, 1));
        due.same("a tenant already", -1, x.lease(1, 1));
        due.same("3 tenants", -1, x.lease(3, 2));
        due.same("still 3", 3, x.line(2, 3));
        due.thrown("lease(5, 0)", IndexOutOfBoundsException.class, () -> x.lease(5, 0));
        due.thrown("lease(-1, 0)", IndexOutOfBoundsException.class, () -> x.lease(-1, 0));
        due.thrown("lease(0, 3)", IndexOutOfBoundsException.class, () -> x.lease(0, 3));
        due.thrown("lease(0, -1)", IndexOutOfBoundsException.class, () -> x.lease(0, -1));
        LineLeases y = Due.loaded("lines;handler 0 1;line 1 1 0 0;period 1;line 0 1 0;");
        y.pass(1);
        due.same("bankrupt", -1, y.lease(0, 1));
        due.same("no tenant", 0, y.line(1, 3));
        y.fund(0, 1);
        due.same("not bankrupt any more", 0, y.lease(0, 1));
    }

    private static void promise18Release() {
        LineLeases x = Due.loaded(TEXT);
        x.pass(1);
        x.lease(3, 0);
        x.lease(4, 0);
        // Requests 0 and 1 of handler 0 fall to 3 and 4.
        due.same("two are assigned anew", 2, x.release(0, 0));
        due.same("holder of request 0", 3, x.request(0, 4));
        due.same("holder of request 1", 4, x.request(1, 4));
        due.same("the order stays", 3, x.tenant(0, 0));
        due.same("no tenant", -1, x.release(0, 0));
        due.same("still tenant of another line", 1, x.handler(0, 4));
        x.raise(2, 5);
        due.same("request of line 2", 0, x.request(5, 4));
        x.lease(0, 0);
        due.same("holds none of this line", 0, x.release(0, 0));
        due.same("keeps that of the other line", 0, x.request(5, 4));
        x.release(3, 0);
        due.same("nobody is left", 2, x.release(4, 0));
        due.same("no holder", -1, x.request(0, 4));
        due.same("two without a holder", 2, x.line(0, 4));
        due.thrown("release(5, 0)", IndexOutOfBoundsException.class, () -> x.release(5, 0));
        due.thrown("release(-1, 0)", IndexOutOfBoundsException.class, () -> x.release(-1, 0));
        due.thrown("release(0, 3)", IndexOutOfBoundsException.class, () -> x.release(0, 3));
        due.thrown("release(0, -1)", IndexOutOfBoundsException.class, () -> x.release(0, -1));
        // What is assigned anew has its latest progress now.
        LineLeases y = Due.loaded("lines;handler 50 1;handler 500 1;line 0 9 0 0 1;line 0 9 0 1;raise 1 0 90;raise 0 0 9;"
                + "patience 4;");
        y.pass(1);
        y.raise(1, 50);
        y.pass(2);
        y.release(0, 0);
        due.same("falls to the other", 1, y.request(1, 4));
        y.pass(4);
        due.same("only request 2 was fined by then", 50, y.handler(1, 5));
        y.pass(1);
        due.same("then request 1, too (3 were done)", 50 + 6, y.handler(1, 5));
    }

    private static void promise19Fund() {
        LineLeases x = Due.loaded("lines;handler 0 1;handler 9 1;line 1 1 0 0;period 1;");
        due.same("its purse", 10, x.fund(1, 1));
        due.same("beyond 9999", 10009, x.fund(1, 9999));
        x.pass(1);
        due.same("bankrupt", 1, x.handler(0, 2));
        due.same("its purse then", 3, x.fund(0, 3));
        due.same("not bankrupt", 0, x.handler(0, 2));
        due.same("but no tenant", 0, x.handler(0, 4));
        due.thrown("fund(2, 1)", IndexOutOfBoundsException.class, () -> x.fund(2, 1));
        due.thrown("fund(-1, 0)", IndexOutOfBoundsException.class, () -> x.fund(-1, 0));
        for (int coins : new int[] {0, 10000, -1, Integer.MIN_VALUE, Integer.MAX_VALUE}) {
            due.thrown("fund(0, " + coins + ")", IllegalArgumentException.class, () -> x.fund(0, coins));
        }
        due.same("they change nothing", 3, x.handler(0, 0));
    }

    private static void promise20Undo() {
        LineLeases x = new LineLeases();
        due.same("nothing to undo", -1, x.undo());
        Due.load(x, TEXT);
        long[] sums = new long[13];
        for (int i = 0; i < 12; i++) {
            sums[i] = x.checksum();
            x.pass(1);
        }
        for (int i = 11; i >= 4; i--) {
            due.same("undo of change " + i, i - 4, x.undo());
            due.same("the data before change " + i, sums[i], x.checksum());
        }
        due.same("the others are final", -1, x.undo());
        due.same("nothing changes then", sums[4], x.checksum());
        x.pass(1);
        x.pass(1);
        x.fund(0, 1);
        due.same("two of three", 2, x.undo());
        x.fund(0, 2);
        due.same("after an undo and a change", 2, x.undo());
        due.same("the data", sums[6], x.checksum());
        // 8 later ones, none of them undone: undoing gives room again.
        for (int i = 0; i < 6; i++) {
            x.pass(1);
        }
        due.same("8 of 8", 7, x.undo());
        x.pass(1);
        x.pass(1);
        for (int i = 7; i >= 0; i--) {
            due.same("still 8", i, x.undo());
        }
        due.same("the one before is final", -1, x.undo());
        due.same("the data of it", sums[5], x.checksum());
    }

    private static void promise20WhatIsAChange() {
        LineLeases x = Due.loaded(TEXT);
        due.same("a refused lease", -1, x.lease(0, 0));
        due.same("is a change", 1, x.undo());
        due.same("a refused release", -1, x.release(4, 0));
        due.same("is a change, too", 1, x.undo());
        Due.load(x, "lines;?");
        due.same("a failed load is none", 0, x.undo());
        due.same("the load is undone", 0, x.state(1));
        due.same("nothing left", -1, x.undo());
        Due.load(x, TEXT);
        due.thrown("pass(0)", IllegalArgumentException.class, () -> x.pass(0));
        due.thrown("raise(0, 0)", IllegalArgumentException.class, () -> x.raise(0, 0));
        due.thrown("lease(9, 0)", IndexOutOfBoundsException.class, () -> x.lease(9, 0));
        due.thrown("release(9, 0)", IndexOutOfBoundsException.class, () -> x.release(9, 0));
        due.thrown("fund(0, 0)", IllegalArgumentException.class, () -> x.fund(0, 0));
        due.thrown("load(-1)", IllegalArgumentException.class, () -> x.load(-1));
        x.append(0, 0, 0, 0, 0);
        due.same("what throws is no change, and append is none", 0, x.undo());
        due.same("the buffer is not affected", 40, x.append(0, 0, 0, 0, 0));
        LineLeases y = new LineLeases();
        y.pass(3);
        due.same("a pass without a load is a change", 0, y.undo());
        due.same("the time is as before", 0, y.state(0));
    }

    private static void promise20EachChange() {
        LineLeases x = Due.loaded(TEXT);
        x.pass(2);
        long before = x.checksum();
        x.raise(0, 5);
        x.undo();
        due.same("undo of a raise", before, x.checksum());
        x.lease(3, 1);
        x.undo();
        due.same("undo of a lease", before, x.checksum());
        x.release(0, 0);
        x.undo();
        due.same("undo of a release", before, x.checksum());
        x.fund(0, 5);
        x.undo();
        due.same("undo of a fund", before, x.checksum());
        x.pass(200);
        int later = x.finesIn(300);
        long then = x.checksum();
        Due.load(x, "lines;patience 1;window 1;storm 1;period 1;wage 9;fine 3;line 1 1 1;handler 1 1;");
        due.same("undo of a load", 3, x.undo());
        due.same("brings back the data", then, x.checksum());
        due.same("and the rules", later, x.finesIn(300));
        x.undo();
        due.same("undo of a pass", before, x.checksum());
        LineLeases z = Due.loaded("lines;handler 60 1;handler 3 9;line 2 2 40 0;line 1 2 9 1;raise 0 0 9;raise 0 0 9;"
                + "raise 0 0 1;patience 1;period 3;fine 4;");
        z.pass(6);
        due.holds("fines and rents were paid", z.handler(0, 5) > 0 && z.handler(0, 6) > 0);
        long paid = z.checksum();
        z.pass(20);
        due.holds("and more", z.handler(0, 5) > 4 && z.handler(0, 6) > 4);
        z.undo();
        due.same("undo of fines, rents and wages", paid, z.checksum());
        // The fine, the patience and the other rules come back, too.
        LineLeases y = Due.loaded("lines;handler 500 1;line 5 1 9 0;raise 0 0 9;raise 0 0 3;raise 0 1 5;raise 0 2 9;"
                + "window 1;storm 3;period 2;patience 2;wage 4;fine 6*left;");
        y.pass(3);
        int fines = y.finesIn(40);
        int end = y.endsAt(2);
        Due.load(y, "lines;");
        y.undo();
        due.same("fines", fines, y.finesIn(40));
        due.same("ends", end, y.endsAt(2));
    }
}
