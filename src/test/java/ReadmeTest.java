/** The example of README.md answers what README.md says. */
final class ReadmeTest {
    public static void main(String[] args) {
        Due due = new Due("ReadmeTest");
        LineLeases x = new LineLeases();
        x.append(0x6c696e65, 0x733b2068, 0x616e646c, 0x65722035, 0x3020333b);
        x.append(0x6c696e65, 0x20342032, 0x20393020, 0x303b2072, 0x61697365);
        x.append(0x20302031, 0x20373b20, 0x20202020, 0x20202020, 0x20202020);
        due.same("load(47)", 1, x.load(47));
        due.same("endsAt(0)", 3, x.endsAt(0));
        due.same("pass(4)", 1, x.pass(4));
        due.same("handler(0, 7)", 7, x.handler(0, 7));
        due.same("undo()", 1, x.undo());
        due.end();
    }
}
