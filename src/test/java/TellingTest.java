/** Promises 15 to 21: clash, at, about, hearing, paidBy, balances, hour. */
final class TellingTest {
    private static final Class<IndexOutOfBoundsException> INDEX = IndexOutOfBoundsException.class;
    private static final Class<IllegalArgumentException> ARGUMENT = IllegalArgumentException.class;
    private static final Check CHECK = new Check("TellingTest");
    private static final int NO = Hearingpay.NONE;

    public static void main(String[] args) {
        clash();
        clashOfMany();
        clashRefusals();
        at();
        atRefusals();
        about();
        hearing();
        paidBy();
        balancesAndHour();
        CHECK.end();
    }

    /**
     * Matter 0 of judge 0 and the parties 0, 1 has hearing 0 from 10 to 13 in room 0 with
     * interpreter 0; the other matters share its judge (1), a party (2, 3), or nothing (4).
     */
    private static Hearingpay some() {
        Hearingpay x = new Hearingpay();
        x.interpreter(0, 15, 10);
        x.file(0, 0, 1, 0);
        x.file(0, 2, 3, 0);
        x.file(1, 1, 2, 0);
        x.file(1, 3, 0, 0);
        x.file(1, 4, 5, 0);
        x.plan(0, 0, 0, 10, 3);
        return x;
    }

    private static void clash() {
        Hearingpay x = some();
        CHECK.is("the room is the first reason", x.clash(1, 0, 0, 10, 1), 1);
        CHECK.is("the judge is the second", x.clash(1, 1, 0, 10, 1), 2);
        CHECK.is("a party is the third", x.clash(2, 1, 0, 10, 1), 3);
        CHECK.is("the other party, too", x.clash(3, 1, 0, 10, 1), 3);
        CHECK.is("the interpreter is the fourth", x.clash(4, 1, 0, 10, 1), 4);
        CHECK.is("another interpreter, who need not know it", x.clash(4, 1, 1, 10, 1), 0);
        CHECK.is("no interpreter", x.clash(4, 1, NO, 10, 1), 0);
        CHECK.is("its own matter has the judge", x.clash(0, 1, NO, 10, 1), 2);
        CHECK.is("up to it", x.clash(1, 0, 0, 6, 4), 0);
        CHECK.is("into its first hour", x.clash(1, 0, 0, 7, 4), 1);
        CHECK.is("around it", x.clash(1, 0, 0, 10, 4), 1);
        CHECK.is("its last hour", x.clash(1, 0, 0, 12, 4), 1);
        CHECK.is("behind it", x.clash(1, 0, 0, 13, 4), 0);
        CHECK.is("two without an interpreter", noInterpreters().clash(1, 1, NO, 10, 1), 0);
        x.pass(12);
        CHECK.is("it has begun and clashes still", x.clash(1, 0, 0, 10, 1), 1);
        x.pass(1);
        CHECK.is("it is over", x.clash(1, 0, 0, 10, 1), 0);
        CHECK.is("from 0", x.clash(1, 0, 0, 0, 4), 0);
        CHECK.is("from 999", x.clash(1, 0, 0, 999, 4), 0);
        Hearingpay y = some();
        y.drop(0);
        CHECK.is("a DROPPED one", y.clash(1, 0, 0, 10, 1), 0);
    }

    private static Hearingpay noInterpreters() {
        Hearingpay x = new Hearingpay();
        x.file(0, 0, 1, NO);
        x.file(1, 2, 3, NO);
        x.plan(0, 0, NO, 10, 1);
        return x;
    }

    private static void clashOfMany() {
        Hearingpay x = some();
        x.plan(4, 1, 0, 14, 1);
        CHECK.is("the first reason, not the first hearing's", x.clash(3, 1, 0, 12, 3), 1);
        CHECK.is("the judge ahead of the party", x.clash(3, 2, 0, 12, 3), 2);
        CHECK.is("the party alone", x.clash(3, 2, 0, 12, 2), 3);
    }

    private static void clashRefusals() {
        Check.Setup some = TellingTest::some;
        CHECK.refuses("clash(-1, ..)", INDEX, some, y -> y.clash(-1, 0, 0, 10, 1));
        CHECK.refuses("clash(5, ..)", INDEX, some, y -> y.clash(5, 0, 0, 10, 1));
        CHECK.refuses("room -1", INDEX, some, y -> y.clash(0, -1, 0, 10, 1));
        CHECK.refuses("room 4", INDEX, some, y -> y.clash(0, 4, 0, 10, 1));
        CHECK.refuses("interpreter -2", INDEX, some, y -> y.clash(0, 0, -2, 10, 1));
        CHECK.refuses("interpreter 4, hours 0", INDEX, some, y -> y.clash(0, 0, 4, 10, 0));
        CHECK.refuses("from -1", ARGUMENT, some, y -> y.clash(0, 0, 0, -1, 1));
        CHECK.refuses("from 1000", ARGUMENT, some, y -> y.clash(0, 0, 0, 1000, 1));
        CHECK.refuses("hours 0", ARGUMENT, some, y -> y.clash(0, 0, 0, 10, 0));
        CHECK.refuses("hours 5", ARGUMENT, some, y -> y.clash(0, 0, 0, 10, 5));
    }

    private static void at() {
        Hearingpay x = some();
        int[] has = {0, 0, 0, 0};
        int[] hasNot = {1, 1, 2, 1};
        for (int what = 0; what < 4; what++) {
            String who = "at(" + what + ", ..)";
            CHECK.is(who + " ahead", x.at(what, has[what], 9), NO);
            CHECK.is(who + " first hour", x.at(what, has[what], 10), 0);
            CHECK.is(who + " last hour", x.at(what, has[what], 12), 0);
            CHECK.is(who + " behind", x.at(what, has[what], 13), NO);
            CHECK.is(who + " another", x.at(what, hasNot[what], 10), NO);
        }
        CHECK.is("the second party", x.at(2, 1, 10), 0);
        CHECK.is("the last party", x.at(2, 5, 10), NO);
        CHECK.is("the first hour of all", x.at(2, 5, 0), NO);
        x.plan(4, 3, 0, 999, 4);
        CHECK.is("the last hour that one can have", x.at(0, 3, 1002), 1);
        CHECK.is("the last hour of all", x.at(0, 3, 1003), NO);
        x.pass(12);
        CHECK.is("still PLANNED", x.at(0, 0, 10), 0);
        x.pass(1);
        CHECK.is("FAILED", x.at(0, 0, 10), NO);
    }

    private static void atRefusals() {
        Check.Setup some = TellingTest::some;
        CHECK.refuses("at(-1, 0, 0)", ARGUMENT, some, y -> y.at(-1, 0, 0));
        CHECK.refuses("at(4, 0, 0)", ARGUMENT, some, y -> y.at(4, 0, 0));
        CHECK.refuses("at(4, 9, 2000)", ARGUMENT, some, y -> y.at(4, 9, 2000));
        int[] most = {3, 3, 5, 3};
        for (int kind = 0; kind < 4; kind++) {
            int what = kind;
            CHECK.is("the last of kind " + what, some().at(what, most[what], 0), NO);
            CHECK.refuses("one more of kind " + what, INDEX, some, y -> y.at(what, most[what] + 1, 0));
            CHECK.refuses("-1 of kind " + what, INDEX, some, y -> y.at(what, -1, 0));
        }
        CHECK.refuses("hour -1", INDEX, some, y -> y.at(0, 0, -1));
        CHECK.refuses("hour 1004", INDEX, some, y -> y.at(0, 0, 1004));
    }

    private static void about() {
        Hearingpay x = some();
        int[] due = {Hearingpay.FILED, 0, 0, 1, 0, -80, 100, 0};
        for (int what = 0; what < 8; what++) {
            CHECK.is("about(0, " + what + ")", x.about(0, what), due[what]);
        }
        CHECK.is("about(3, 1)", x.about(3, 1), 1);
        CHECK.is("about(3, 2)", x.about(3, 2), 3);
        CHECK.is("about(3, 3)", x.about(3, 3), 0);
        CHECK.is("about(3, 4)", x.about(3, 4), 0);
        x.pass(4);
        x.drop(0);
        CHECK.is("about(0, 7)", x.about(0, 7), 3);
        x.pass(7);
        CHECK.is("about(0, 7) at 11", x.about(0, 7), 1);
        Check.Setup some = TellingTest::some;
        CHECK.refuses("about(-1, 0)", INDEX, some, y -> y.about(-1, 0));
        CHECK.refuses("about(5, 0)", INDEX, some, y -> y.about(5, 0));
        CHECK.refuses("about(5, 8)", INDEX, some, y -> y.about(5, 8));
        CHECK.refuses("about(0, -1)", ARGUMENT, some, y -> y.about(0, -1));
        CHECK.refuses("about(0, 8)", ARGUMENT, some, y -> y.about(0, 8));
    }

    private static void hearing() {
        Hearingpay x = some();
        x.plan(4, 3, 0, 15, 1);
        x.notice(1, 5);
        int[] due = {Hearingpay.PLANNED, 4, 3, 0, 15, 1, 1, 10};
        for (int what = 0; what < 8; what++) {
            CHECK.is("hearing(1, " + what + ")", x.hearing(1, what), due[what]);
        }
        CHECK.is("hearing(0, 5)", x.hearing(0, 5), 3);
        CHECK.is("no interpreter", noInterpreters().hearing(0, 3), NO);
        CHECK.is("and no charge", noInterpreters().hearing(0, 7), 0);
        x.pass(16);
        CHECK.is("FAILED", x.hearing(1, 0), Hearingpay.FAILED);
        CHECK.is("its notices stay told", x.hearing(1, 6), 1);
        Check.Setup some = TellingTest::some;
        CHECK.refuses("hearing(-1, 0)", INDEX, some, y -> y.hearing(-1, 0));
        CHECK.refuses("hearing(1, 0)", INDEX, some, y -> y.hearing(1, 0));
        CHECK.refuses("hearing(1, 8)", INDEX, some, y -> y.hearing(1, 8));
        CHECK.refuses("hearing(0, -1)", ARGUMENT, some, y -> y.hearing(0, -1));
        CHECK.refuses("hearing(0, 8)", ARGUMENT, some, y -> y.hearing(0, 8));
    }

    private static void paidBy() {
        Hearingpay x = some();
        CHECK.is("a planned hour is none", x.paidBy(0, 10), NO);
        x.pass(4);
        x.drop(0);
        CHECK.is("paidBy(0, 9)", x.paidBy(0, 9), NO);
        CHECK.is("paidBy(0, 10)", x.paidBy(0, 10), 0);
        CHECK.is("paidBy(0, 12)", x.paidBy(0, 12), 0);
        CHECK.is("paidBy(0, 13)", x.paidBy(0, 13), NO);
        CHECK.is("paidBy(0, 26)", x.paidBy(0, 26), NO);
        CHECK.is("paidBy(1, 10)", x.paidBy(1, 10), NO);
        CHECK.is("paidBy(3, 1003)", x.paidBy(3, 1003), NO);
        Check.Setup some = TellingTest::some;
        CHECK.refuses("paidBy(-1, 0)", INDEX, some, y -> y.paidBy(-1, 0));
        CHECK.refuses("paidBy(4, 0)", INDEX, some, y -> y.paidBy(4, 0));
        CHECK.refuses("paidBy(0, -1)", INDEX, some, y -> y.paidBy(0, -1));
        CHECK.refuses("paidBy(0, 1004)", INDEX, some, y -> y.paidBy(0, 1004));
    }

    private static void balancesAndHour() {
        Hearingpay x = some();
        CHECK.is("balances()", x.balances(), -280);
        x.pay(4, 9999);
        CHECK.is("balances() with a payment", x.balances(), 9719);
        CHECK.is("hour()", x.hour(), 0);
        x.pass(50);
        CHECK.is("hour() then", x.hour(), 50);
        x.pass(50);
        CHECK.is("a LAPSED matter's balance counts", x.balances(), 9719);
    }
}
