/** 2 handlers, 3 lines and 4 requests at time 2: one answered, one open with a holder, one without, one to come. */
final class SomeRequests {
    static final String TEXT = "lines;handler 50 3;handler 60 2;line 5 9 70 0 1;line 6 9 80;line 7 9 90 1;"
            + "raise 0 0 4;raise 2 0 50;raise 1 0 30;raise 0 700 2;";

    private SomeRequests() {
    }

    static LineLeases loaded() {
        LineLeases x = Due.loaded(TEXT);
        x.pass(2);
        return x;
    }
}
