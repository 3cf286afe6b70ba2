/** Promises 1 to 4: a new object, append, load with its errors, errorOffset. */
final class SetupTest {
    private static final Due due = new Due("SetupTest");

    public static void main(String[] args) {
        promise1NewObject();
        promise2Append();
        promise3Load();
        promise3WithoutStatements();
        promise3Replaces();
        promise3Numbers();
        promise3Errors();
        promise3ErrorsOfCounts();
        promise3OrderOfErrors();
        promise4ErrorOffset();
        due.end();
    }

    private static void promise1NewObject() {
        LineLeases x = new LineLeases();
        for (int what = 0; what < 10; what++) {
            due.same("new: state(" + what + ")", 0, x.state(what));
        }
        due.thrown("new: handler(0, 0)", IndexOutOfBoundsException.class, () -> x.handler(0, 0));
        due.thrown("new: line(0, 0)", IndexOutOfBoundsException.class, () -> x.line(0, 0));
        due.thrown("new: request(0, 0)", IndexOutOfBoundsException.class, () -> x.request(0, 0));
        due.thrown("new: load(1) of the empty buffer", IllegalArgumentException.class, () -> x.load(1));
        due.same("new: errorOffset()", -1, x.errorOffset());
        due.same("new: undo()", -1, x.undo());
        due.same("new: checksum()", 0, x.checksum());
        due.same("new: finesIn(1100)", 0, x.finesIn(1100));
        due.same("new: pass(200)", 0, x.pass(200));
        due.same("new: the first append", 20, x.append(0, 0, 0, 0, 0));
    }

    private static void promise2Append() {
        LineLeases x = new LineLeases();
        // "line" "s;ha" "ndle" "r 12" " 3; "
        due.same("append answers the length", 20,
                x.append(0x6c696e65, 0x733b6861, 0x6e646c65, 0x72203132, 0x20333b20));
        due.same("load reads the bytes in their order", 0, x.load(20));
        due.same("purse", 12, x.handler(0, 0));
        due.same("speed", 3, x.handler(0, 1));
        for (int length = 20; length <= 700; length += 20) {
            due.same("append up to the limit", length,
                    x.append(0x20202020, 0x20202020, 0x20202020, 0x20202020, 0x20202020));
        }
        due.same("append beyond the limit", -1, x.append(0x61616161, 0, 0, 0, 0));
        due.same("append beyond the limit again", -1, x.append(0x61616161, 0, 0, 0, 0));
        due.same("the buffer stays as it was", -2, x.load(700));
        due.same("only spaces: the end is the error", 700, x.errorOffset());
        due.same("load empties the buffer", 20, x.append(0x6c696e65, 0x733bffff, -1, -1, -1));
        due.same("bytes above 127", -2, x.load(7));
        due.same("bytes above 127: offset", 6, x.errorOffset());
    }

    private static void promise3Load() {
        LineLeases x = new LineLeases();
        due.same("requests", 2, Due.load(x, "lines;handler 5 4;line 3 2 7 0;raise 0 3 9;raise 0 2 8;bank"
                .substring(0, 55)));
        due.same("the lengths' rest is not read: time of request 0", 3, x.request(0, 1));
        due.same("time of request 1", 2, x.request(1, 1));
        Due.append(x, "lines;handler 1 1;");
        due.thrown("load(-1)", IllegalArgumentException.class, () -> x.load(-1));
        due.thrown("load(21)", IllegalArgumentException.class, () -> x.load(21));
        due.thrown("load of the least int", IllegalArgumentException.class, () -> x.load(Integer.MIN_VALUE));
        due.same("the buffer is unchanged by them", 40, Due.append(x, " "));
        long before = x.checksum();
        due.same("an error", -2, x.load(17));
        due.same("an error leaves the data", before, x.checksum());
        due.thrown("an error empties the buffer", IllegalArgumentException.class, () -> x.load(1));
        due.same("an empty text", -2, x.load(0));
        due.same("an empty text: offset", 0, x.errorOffset());
        x.pass(4);
        x.raise(0, 3);
        due.same("a text without statements", 0, Due.load(x, "lines;"));
        for (int what = 0; what < 10; what++) {
            due.same("all data are replaced: state(" + what + ")", 0, x.state(what));
        }
        due.same("errorOffset after a success", -1, x.errorOffset());
    }

    /** Without statements patience is 5, window 10, storm 10, period 10, wage 1 and the fine what is left. */
    private static void promise3WithoutStatements() {
        LineLeases x = Due.loaded("lines;patience 1;window 1;storm 0;period 1;wage 0;fine 1+2;");
        Due.load(x, "lines;handler 90 1;line 20 1 40 0;raise 0 0 2;raise 0 9 1;raise 0 10 50;");
        x.pass(9);
        due.same("no rent in 9 ticks; a wage of 2", 90 + 2, x.handler(0, 0));
        x.pass(1);
        due.same("a rent in 10 ticks", 90 + 2 - 20, x.handler(0, 0));
        due.same("at 9 one is refused", 3, x.request(1, 3));
        due.same("at 10 it still is in the window", 0, x.calm(0));
        due.same("device", 40 - 2 - 10, x.line(0, 2));
        due.same("bank", 20 + 10, x.state(4));
        x.pass(1);
        due.same("at 10 one is refused, too", 3, x.request(2, 3));
        x.pass(8);
        due.same("at 19 the one of 10 is in the window", 0, x.calm(0));
        x.pass(1);
        due.same("at 20 none is", 1, x.calm(0));
        Due.load(x, "lines;fine 77;");
        Due.load(x, "lines;handler 90 1;line 0 9 0 0;raise 0 0 90;raise 0 0 8;");
        x.pass(5);
        due.same("no fine in 5 ticks", 0, x.handler(0, 5));
        x.pass(1);
        due.same("a fine at 5", 8, x.handler(0, 5));
        Due.load(x, "lines;fine 77;handler 90 1;line 0 9 0 0;raise 0 0 90;raise 0 0 8;");
        due.same("another fine", 77, x.finesIn(6));
    }

    /** Nothing of the data before, nor of a prediction, is left behind a load. */
    private static void promise3Replaces() {
        String text = "lines;handler 9 1;handler 90 5;line 0 9 60 0 1;line 2 9 60 1 0;raise 1 0 20;raise 1 0 30;"
                + "raise 0 2 6;raise 0 2 6;raise 0 2 6;patience 1;period 2;fine 3;";
        LineLeases x = Due.loaded(text);
        long before = x.checksum();
        for (int i = 0; i < 4; i++) {
            x.pass(9);
            due.holds("some are bankrupt", x.bankruptIn(0) == 0);
            due.same("five requests", 5, Due.load(x, text));
            due.same("as at first", before, x.checksum());
        }
    }

    private static void promise3Numbers() {
        LineLeases x = Due.loaded("  lines ; handler0009999 00000000000000000000020;handler 0 1;"
                + "line99 20 9999 1 0;line 0 1 0;raise1 999 99;raise 0 0 1;patience99;window99;storm999;period99;"
                + "wage99;fine(((( 9999 ))))+0-line*left/held+waited ;  ");
        due.same("purse", 9999, x.handler(0, 0));
        due.same("speed", 20, x.handler(0, 1));
        due.same("least purse", 0, x.handler(1, 0));
        due.same("least speed", 1, x.handler(1, 1));
        due.same("rent", 99, x.line(0, 0));
        due.same("limit", 20, x.line(0, 1));
        due.same("device purse", 9999, x.line(0, 2));
        due.same("first tenant", 1, x.tenant(0, 0));
        due.same("second tenant", 0, x.tenant(0, 1));
        due.same("a line without tenants", 0, x.line(1, 3));
        due.same("line of a request", 1, x.request(0, 0));
        due.same("time of a request", 999, x.request(0, 1));
        due.same("work of a request", 99, x.request(0, 2));
        due.accepts("lines;patience 1;window 1;storm 0;period 1;wage 0;fine 0;");
        due.accepts("lines;handler 1 1;handler 1 1;handler 1 1;line 0 1 0 2 0 1;");
        due.accepts("lines;fine((((1)))+(2))*(3);");
        due.accepts("lines;" + "handler 1 1;".repeat(6) + "line 0 1 0;".repeat(8));
        due.same("60 requests", 60, Due.load(new LineLeases(), "lines;line 0 1 0;" + "raise0 0 1;".repeat(60)));
    }

    private static void promise3Errors() {
        due.refusesAfter("", LineLeases.SYNTAX_ERROR, "handler 1 1;");
        due.refusesAfter("", LineLeases.SYNTAX_ERROR, "Lines;");
        due.refusesAfter("", LineLeases.SYNTAX_ERROR, "line;");
        due.refusesAfter("", LineLeases.SYNTAX_ERROR, "linesx;");
        due.refusesAfter("lines", LineLeases.SYNTAX_ERROR, "");
        due.refusesAfter("lines   ", LineLeases.SYNTAX_ERROR, "");
        due.refusesAfter("lines", LineLeases.SYNTAX_ERROR, "5;");
        due.refusesAfter("lines;", LineLeases.SYNTAX_ERROR, ";");
        due.refusesAfter("lines;", LineLeases.SYNTAX_ERROR, "lines;");
        due.refusesAfter("lines;", LineLeases.SYNTAX_ERROR, "left;");
        due.refusesAfter("lines;", LineLeases.SYNTAX_ERROR, "linehandler 1 1;");
        due.refusesAfter("lines;handler", LineLeases.SYNTAX_ERROR, "\t1 1;");
        due.refusesAfter("lines;handler 1", LineLeases.SYNTAX_ERROR, ";");
        due.refusesAfter("lines;handler 1 ", LineLeases.SYNTAX_ERROR, "a;");
        due.refusesAfter("lines;handler 1 1 ", LineLeases.SYNTAX_ERROR, "1;");
        due.refusesAfter("lines;handler 1 1", LineLeases.SYNTAX_ERROR, "");
        due.refusesAfter("lines;handler ", LineLeases.SYNTAX_ERROR, "-1 1;");
        due.refusesAfter("lines;line 1 1", LineLeases.SYNTAX_ERROR, ";");
        due.refusesAfter("lines;line 1 1 1 ", LineLeases.SYNTAX_ERROR, "left;");
        due.refusesAfter("lines;line 1 1 1;raise 0 1", LineLeases.SYNTAX_ERROR, ";");
        due.refusesAfter("lines;fine ", LineLeases.SYNTAX_ERROR, ";");
        due.refusesAfter("lines;fine 1", LineLeases.SYNTAX_ERROR, "left;");
        due.refusesAfter("lines;fine 1 ", LineLeases.SYNTAX_ERROR, "2;");
        due.refusesAfter("lines;fine ", LineLeases.SYNTAX_ERROR, "-1;");
        due.refusesAfter("lines;fine ", LineLeases.SYNTAX_ERROR, "lines;");
        due.refusesAfter("lines;fine ", LineLeases.SYNTAX_ERROR, "handler;");
        due.refusesAfter("lines;fine 1+", LineLeases.SYNTAX_ERROR, ";");
        due.refusesAfter("lines;fine 1*", LineLeases.SYNTAX_ERROR, "*2;");
        due.refusesAfter("lines;fine (1", LineLeases.SYNTAX_ERROR, ";");
        due.refusesAfter("lines;fine 1", LineLeases.SYNTAX_ERROR, ");");
        due.refusesAfter("lines;fine (", LineLeases.SYNTAX_ERROR, ");");
        due.refusesAfter("lines;fine 1", LineLeases.SYNTAX_ERROR, "(2);");
        due.refusesAfter("lines;fine held ", LineLeases.SYNTAX_ERROR, "\u00e9;");
        due.refusesAfter("lines;fine held", LineLeases.SYNTAX_ERROR, "Left;");
        for (String word : new String[] {"patience 1", "window 1", "storm 1", "period 1", "wage 1", "fine 1"}) {
            due.refusesAfter("lines;" + word + "; ", LineLeases.SYNTAX_ERROR, word + ";");
            due.refusesAfter("lines;" + word + ";handler 1 1; ", LineLeases.SYNTAX_ERROR, word.split(" ")[0] + " x");
        }
        due.refusesAfter("lines;handler ", LineLeases.OUT_OF_RANGE, "10000 1;");
        due.refusesAfter("lines;handler ", LineLeases.OUT_OF_RANGE, "00018446744073709551617 1;");
        due.refusesAfter("lines;handler ", LineLeases.OUT_OF_RANGE, "4294967296 1;");
        due.refusesAfter("lines;handler 1 ", LineLeases.OUT_OF_RANGE, "0;");
        due.refusesAfter("lines;handler 1 ", LineLeases.OUT_OF_RANGE, "21;");
        due.refusesAfter("lines;line ", LineLeases.OUT_OF_RANGE, "100 1 1;");
        due.refusesAfter("lines;line 0 ", LineLeases.OUT_OF_RANGE, "0 1;");
        due.refusesAfter("lines;line 0 ", LineLeases.OUT_OF_RANGE, "21 1;");
        due.refusesAfter("lines;line 0 1 ", LineLeases.OUT_OF_RANGE, "10000;");
        due.refusesAfter("lines;line 0 1 0 ", LineLeases.OUT_OF_RANGE, "0;handler 1 1;");
        due.refusesAfter("lines;handler 1 1;line 0 1 0 0 ", LineLeases.OUT_OF_RANGE, "1;");
        due.refusesAfter("lines;raise ", LineLeases.OUT_OF_RANGE, "0 1 1;line 0 1 0;");
        due.refusesAfter("lines;line 0 1 0;raise ", LineLeases.OUT_OF_RANGE, "1 1 1;");
        due.refusesAfter("lines;line 0 1 0;raise 0 ", LineLeases.OUT_OF_RANGE, "1000 1;");
        due.refusesAfter("lines;line 0 1 0;raise 0 0 ", LineLeases.OUT_OF_RANGE, "0;");
        due.refusesAfter("lines;line 0 1 0;raise 0 0 ", LineLeases.OUT_OF_RANGE, "100;");
        for (String word : new String[] {"patience ", "window ", "period "}) {
            due.refusesAfter("lines;" + word, LineLeases.OUT_OF_RANGE, "0;");
            due.refusesAfter("lines;" + word, LineLeases.OUT_OF_RANGE, "100;");
        }
        due.refusesAfter("lines;storm ", LineLeases.OUT_OF_RANGE, "1000;");
        due.refusesAfter("lines;wage ", LineLeases.OUT_OF_RANGE, "100;");
        due.refusesAfter("lines;fine 9999+", LineLeases.OUT_OF_RANGE, "10000;");
        due.refusesAfter("lines;handler 1 1;handler 1 1;line 0 1 0 1 0 ", LineLeases.REPEATED, "1;");
        due.refusesAfter("lines;handler 1 1;line 0 1 0 0 ", LineLeases.REPEATED, "00;");
        due.refusesAfter("lines;fine ((((1)+ 2)* (3+ ", LineLeases.SYNTAX_ERROR, "");
        due.refusesAfter("lines;fine ((((", LineLeases.TOO_DEEP, "(1)))));");
        due.refusesAfter("lines;fine 1*(2+((3-( ", LineLeases.TOO_DEEP, "(");
        due.refusesAfter("lines;fine ((((1", LineLeases.SYNTAX_ERROR, "(1)))));");
    }

    private static void promise3ErrorsOfCounts() {
        String handlers = "lines;" + "handler 1 1;".repeat(6);
        due.refusesAfter(handlers, LineLeases.TOO_MANY, "handler 1 1;");
        due.refusesAfter(handlers + " ", LineLeases.TOO_MANY, "handler");
        String lines = "lines;" + "line 0 1 0;".repeat(8);
        due.refusesAfter(lines, LineLeases.TOO_MANY, "line 0 1 0;");
        due.refusesAfter(lines, LineLeases.TOO_MANY, "line x;");
        String requests = "lines;line 0 1 0;" + "raise0 0 1;".repeat(60);
        due.refusesAfter(requests, LineLeases.TOO_MANY, "raise0 0 1;");
        due.refusesAfter(requests, LineLeases.TOO_MANY, "raise;");
        due.refusesAfter(handlers + "line 0 1 0 5 4 3 ", LineLeases.TOO_MANY, "2;");
        due.refusesAfter(handlers + "line 0 1 0 5 4 3 ", LineLeases.TOO_MANY, "2 2;");
    }

    private static void promise3OrderOfErrors() {
        String handlers = "lines;" + "handler 1 1;".repeat(6);
        due.refusesAfter(handlers + "line 0 1 0 5 4 3 ", LineLeases.REPEATED, "4;");
        due.refusesAfter(handlers + "line 0 1 0 5 4 3 ", LineLeases.OUT_OF_RANGE, "6;");
        due.refusesAfter("lines;handler ", LineLeases.OUT_OF_RANGE, "10000 1; ?");
        due.refusesAfter("lines;fine ((((", LineLeases.TOO_DEEP, "(?");
        due.refusesAfter("lines;fine ((((", LineLeases.SYNTAX_ERROR, ")(");
    }

    private static void promise4ErrorOffset() {
        LineLeases x = new LineLeases();
        Due.load(x, "lines;?");
        due.same("offset of an error", 6, x.errorOffset());
        due.thrown("load that throws", IllegalArgumentException.class, () -> x.load(1));
        due.same("offset of the latest load that did not throw", 6, x.errorOffset());
        x.pass(1);
        x.undo();
        due.same("undo leaves it", 6, x.errorOffset());
        Due.load(x, "lines;");
        due.same("offset after a success", -1, x.errorOffset());
        Due.load(x, "lines?");
        x.undo();
        due.same("undo of a load leaves it", 5, x.errorOffset());
    }
}
