/** Promises 1 to 5: a new object, interpreter, waive, file, pay. */
final class PeopleTest {
    private static final Class<IndexOutOfBoundsException> INDEX = IndexOutOfBoundsException.class;
    private static final Class<IllegalArgumentException> ARGUMENT = IllegalArgumentException.class;
    private static final Class<IllegalStateException> STATE = IllegalStateException.class;
    private static final Check CHECK = new Check("PeopleTest");

    public static void main(String[] args) {
        newObject();
        interpreter();
        interpreterRefusals();
        waive();
        file();
        fileRefusals();
        pay();
        CHECK.end();
    }

    /** An interpreter knows some languages, there is a waiver, a matter and a hearing. */
    private static Hearingpay some() {
        Hearingpay x = new Hearingpay();
        x.interpreter(1, 6, 20);
        x.waive(4, true);
        x.file(2, 3, 5, 1);
        x.plan(0, 1, 1, 9, 2);
        return x;
    }

    private static Hearingpay full() {
        Hearingpay x = new Hearingpay();
        for (int i = 0; i < 12; i++) {
            x.file(i % 4, i % 6, (i + 1) % 6, i % 5 - 1);
        }
        return x;
    }

    private static void newObject() {
        Hearingpay x = new Hearingpay();
        CHECK.is("hour()", x.hour(), 0);
        CHECK.is("balances()", x.balances(), 0);
        CHECK.is("about(0, 0)", Check.answer(x, y -> y.about(0, 0)), "throws IndexOutOfBoundsException");
        CHECK.is("hearing(0, 0)", Check.answer(x, y -> y.hearing(0, 0)), "throws IndexOutOfBoundsException");
        CHECK.is("at(0, 0, 0)", x.at(0, 0, 0), Hearingpay.NONE);
        CHECK.is("at(3, 3, 1003)", x.at(3, 3, 1003), Hearingpay.NONE);
        CHECK.is("paidBy(0, 0)", x.paidBy(0, 0), Hearingpay.NONE);
        for (int party = 0; party < 6; party++) {
            CHECK.is("nobody's fees are waived at first", x.waive(party, false), false);
        }
        CHECK.is("file numbers from 0", x.file(0, 0, 1, Hearingpay.NONE), 0);
        Hearingpay other = new Hearingpay();
        CHECK.is("an object shares nothing with another", other.balances(), 0);
    }

    private static void interpreter() {
        Hearingpay x = new Hearingpay();
        for (int i = 0; i < 4; i++) {
            CHECK.is("the price at first", x.interpreter(i, 0, i == 0 ? 1 : 99), 10);
        }
        CHECK.is("the lowest price", x.interpreter(0, 15, 50), 1);
        CHECK.is("the highest price", x.interpreter(3, 15, 50), 99);
        Hearingpay known = new Hearingpay();
        known.file(0, 0, 1, 0);
        CHECK.is("no language at first", Check.answer(known, y -> y.plan(0, 0, 0, 1, 1)), "throws IllegalStateException");
        known.interpreter(0, 14, 7);
        CHECK.is("another language", Check.answer(known, y -> y.plan(0, 0, 0, 1, 1)), "throws IllegalStateException");
        known.interpreter(0, 1, 7);
        CHECK.is("that language", known.plan(0, 0, 0, 1, 1), 0);
        CHECK.is("the price of then", known.hearing(0, 7), 7);
        known.interpreter(0, 0, 90);
        CHECK.is("a new price leaves old charges", known.hearing(0, 7), 7);
        CHECK.is("what is known no more", Check.answer(known, y -> y.plan(0, 0, 0, 3, 1)), "throws IllegalStateException");
        Hearingpay last = new Hearingpay();
        last.file(0, 0, 1, 3);
        last.interpreter(2, 7, 9);
        CHECK.is("0 to 2 are not 3", Check.answer(last, y -> y.plan(0, 0, 2, 1, 1)), "throws IllegalStateException");
        last.interpreter(2, 8, 9);
        CHECK.is("bit 3 is language 3", last.plan(0, 0, 2, 1, 1), 0);
    }

    private static void interpreterRefusals() {
        CHECK.refuses("interpreter(-1, 0, 1)", INDEX, PeopleTest::some, y -> y.interpreter(-1, 0, 1));
        CHECK.refuses("interpreter(4, 0, 1)", INDEX, PeopleTest::some, y -> y.interpreter(4, 0, 1));
        CHECK.refuses("interpreter(4, 16, 0)", INDEX, PeopleTest::some, y -> y.interpreter(4, 16, 0));
        CHECK.refuses("interpreter(MIN, 0, 1)", INDEX, PeopleTest::some, y -> y.interpreter(Integer.MIN_VALUE, 0, 1));
        CHECK.refuses("interpreter(1, -1, 5)", ARGUMENT, PeopleTest::some, y -> y.interpreter(1, -1, 5));
        CHECK.refuses("interpreter(1, 16, 5)", ARGUMENT, PeopleTest::some, y -> y.interpreter(1, 16, 5));
        CHECK.refuses("interpreter(1, 1, 0)", ARGUMENT, PeopleTest::some, y -> y.interpreter(1, 1, 0));
        CHECK.refuses("interpreter(1, 1, 100)", ARGUMENT, PeopleTest::some, y -> y.interpreter(1, 1, 100));
        Hearingpay x = some();
        Check.answer(x, y -> y.interpreter(1, 0, 100));
        CHECK.is("a refused call leaves the languages", x.plan(0, 0, 1, 20, 1), 1);
    }

    private static void waive() {
        Hearingpay x = new Hearingpay();
        CHECK.is("waive(5, true)", x.waive(5, true), false);
        CHECK.is("waive(5, true) again", x.waive(5, true), true);
        CHECK.is("waive(0, false)", x.waive(0, false), false);
        x.file(0, 5, 0, Hearingpay.NONE);
        CHECK.is("the first party's waiver", x.about(0, 5), 0);
        x.file(0, 0, 5, Hearingpay.NONE);
        CHECK.is("the second party's waiver is none", x.about(1, 5), -50);
        CHECK.is("waive(5, false)", x.waive(5, false), true);
        x.file(0, 5, 0, Hearingpay.NONE);
        CHECK.is("not any more", x.about(2, 5), -50);
        CHECK.is("what was filed stays free", x.about(0, 5), 0);
        CHECK.refuses("waive(-1, true)", INDEX, PeopleTest::some, y -> y.waive(-1, true));
        CHECK.refuses("waive(6, true)", INDEX, PeopleTest::some, y -> y.waive(6, true));
    }

    private static void file() {
        Hearingpay x = new Hearingpay();
        x.pass(7);
        CHECK.is("file(3, 5, 0, 3)", x.file(3, 5, 0, 3), 0);
        CHECK.is("file(0, 0, 5, NONE)", x.file(0, 0, 5, Hearingpay.NONE), 1);
        int[] due = {Hearingpay.FILED, 3, 5, 0, 3, -50, 107, 0};
        for (int what = 0; what < due.length; what++) {
            CHECK.is("about(0, " + what + ")", x.about(0, what), due[what]);
        }
        CHECK.is("about(1, 4)", x.about(1, 4), Hearingpay.NONE);
        CHECK.is("the twelfth", full().about(11, 5), -50);
    }

    private static void fileRefusals() {
        CHECK.refuses("file(-1, 0, 1, 0)", INDEX, PeopleTest::some, y -> y.file(-1, 0, 1, 0));
        CHECK.refuses("file(4, 0, 1, 0)", INDEX, PeopleTest::some, y -> y.file(4, 0, 1, 0));
        CHECK.refuses("file(0, -1, 1, 0)", INDEX, PeopleTest::some, y -> y.file(0, -1, 1, 0));
        CHECK.refuses("file(0, 6, 1, 0)", INDEX, PeopleTest::some, y -> y.file(0, 6, 1, 0));
        CHECK.refuses("file(0, 0, -1, 0)", INDEX, PeopleTest::some, y -> y.file(0, 0, -1, 0));
        CHECK.refuses("file(0, 0, 6, 0)", INDEX, PeopleTest::some, y -> y.file(0, 0, 6, 0));
        CHECK.refuses("file(0, 0, 1, -2)", INDEX, PeopleTest::some, y -> y.file(0, 0, 1, -2));
        CHECK.refuses("file(0, 0, 1, 4)", INDEX, PeopleTest::some, y -> y.file(0, 0, 1, 4));
        CHECK.refuses("file(0, 6, 6, 0)", INDEX, PeopleTest::some, y -> y.file(0, 6, 6, 0));
        CHECK.refuses("file(4, 1, 1, 0) of twelve", INDEX, PeopleTest::full, y -> y.file(4, 1, 1, 0));
        CHECK.refuses("file(0, 1, 1, 0)", ARGUMENT, PeopleTest::some, y -> y.file(0, 1, 1, 0));
        CHECK.refuses("file(0, 1, 1, 0) of twelve", ARGUMENT, PeopleTest::full, y -> y.file(0, 1, 1, 0));
        CHECK.refuses("file(0, 1, 2, 0) of twelve", STATE, PeopleTest::full, y -> y.file(0, 1, 2, 0));
    }

    private static void pay() {
        Hearingpay x = some();
        CHECK.is("pay(0, 1)", x.pay(0, 1), -89);
        CHECK.is("pay(0, 9999)", x.pay(0, 9999), 9910);
        x.file(0, 0, 1, Hearingpay.NONE);
        CHECK.is("pay(1, 50)", x.pay(1, 50), 0);
        CHECK.is("the other's balance", x.about(0, 5), 9910);
        x.pass(50);
        x.pass(50);
        CHECK.is("a LAPSED matter can be paid for", x.pay(0, 5), 9915);
        CHECK.refuses("pay(-1, 1)", INDEX, PeopleTest::some, y -> y.pay(-1, 1));
        CHECK.refuses("pay(1, 1)", INDEX, PeopleTest::some, y -> y.pay(1, 1));
        CHECK.refuses("pay(12, 1) of twelve", INDEX, PeopleTest::full, y -> y.pay(12, 1));
        CHECK.refuses("pay(1, 0)", INDEX, PeopleTest::some, y -> y.pay(1, 0));
        CHECK.refuses("pay(0, 0)", ARGUMENT, PeopleTest::some, y -> y.pay(0, 0));
        CHECK.refuses("pay(0, -5)", ARGUMENT, PeopleTest::some, y -> y.pay(0, -5));
        CHECK.refuses("pay(0, 10000)", ARGUMENT, PeopleTest::some, y -> y.pay(0, 10000));
    }
}
