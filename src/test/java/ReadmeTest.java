/** The example of README.md answers what the comments there say. */
final class ReadmeTest {
    private static final Check CHECK = new Check("ReadmeTest");

    public static void main(String[] args) {
        Hearingpay court = new Hearingpay();
        CHECK.is("interpreter", court.interpreter(0, 2, 12), 10);
        int matter = court.file(1, 0, 3, 1);
        CHECK.is("file", matter, 0);
        int hearing = court.plan(matter, 0, 0, 9, 2);
        CHECK.is("plan", hearing, 0);
        CHECK.is("notice to the first party", court.notice(hearing, 0), true);
        CHECK.is("notice to the second party", court.notice(hearing, 3), true);
        CHECK.is("pass", court.pass(11), 1);
        CHECK.is("about", court.about(matter, 0), Hearingpay.HEARD);
        CHECK.is("decide", court.decide(matter), 0);
        CHECK.is("balances", court.balances(), -74);
        CHECK.end();
    }
}
