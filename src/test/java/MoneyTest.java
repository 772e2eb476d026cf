/** The section "Money", which the promises 6, 10 to 12, 17 to 20 rest on. */
final class MoneyTest {
    private static final Check CHECK = new Check("MoneyTest");
    private static final int NO = Hearingpay.NONE;

    public static void main(String[] args) {
        pricesOfThen();
        givenBack();
        staysPaid();
        othersTakeIt();
        halvesStay();
        halfOfHalf();
        ownPaidTime();
        ownPaidTimeLeftAgain();
        movesLeaveAndTakeAgain();
        paidTimeGoesBy();
        otherInterpreter();
        manyHours();
        CHECK.end();
    }

    /** The interpreters 0 and 1 know all, for 15 and 21; the matters 0 to 2 share no judge or party. */
    private static Hearingpay some() {
        Hearingpay x = new Hearingpay();
        x.interpreter(0, 15, 15);
        x.interpreter(1, 15, 21);
        x.file(0, 0, 1, 0);
        x.file(1, 2, 3, 1);
        x.file(2, 4, 5, 2);
        return x;
    }

    private static void balances(String when, Hearingpay x, int... due) {
        int sum = 0;
        for (int m = 0; m < due.length; m++) {
            CHECK.is(when + ": balance of " + m, x.about(m, 5), due[m]);
            sum += due[m];
        }
        CHECK.is(when + ": balances()", x.balances(), sum);
    }

    private static void paid(String when, Hearingpay x, int interpreter, int from, int... due) {
        for (int k = 0; k < due.length; k++) {
            CHECK.is(when + ": paidBy(" + interpreter + ", " + (from + k) + ")",
                x.paidBy(interpreter, from + k), due[k]);
        }
    }

    private static void pricesOfThen() {
        Hearingpay x = some();
        x.plan(0, 0, 0, 20, 2);
        x.interpreter(0, 15, 40);
        balances("the price of the planning", x, -80, -50, -50);
        CHECK.is("moved: the old price back, the new one charged", x.move(0, 0, 0, 30), -130);
        CHECK.is("what it was charged last", x.hearing(0, 7), 80);
        CHECK.is("dropped: the new one back", x.drop(0), -50);
        CHECK.is("what it was charged last stays told", x.hearing(0, 7), 80);
    }

    private static void givenBack() {
        Hearingpay x = some();
        x.plan(0, 0, 0, 8, 1);
        CHECK.is("8 hours ahead", x.drop(0), -50);
        CHECK.is("no paid time", x.about(0, 7), 0);
        x.plan(0, 0, 0, 7, 1);
        CHECK.is("7 hours ahead", x.drop(1), -65);
        CHECK.is("paid time", x.about(0, 7), 1);
        x.plan(1, 0, 1, 9, 1);
        x.pass(1);
        CHECK.is("moved 8 hours ahead", x.move(2, 0, 1, 20), -71);
        CHECK.is("no paid time", x.about(1, 7), 0);
        x.plan(2, 0, 0, 8, 1);
        CHECK.is("moved 7 hours ahead", x.move(3, 1, 0, 30), -80);
        CHECK.is("paid time", x.about(2, 7), 1);
    }

    private static void staysPaid() {
        Hearingpay x = some();
        x.plan(0, 0, 0, 7, 4);
        CHECK.is("nothing comes back", x.drop(0), -110);
        paid("dropped", x, 0, 6, NO, 0, 0, 0, 0, NO);
        paid("the other interpreter", x, 1, 6, NO, NO, NO, NO, NO, NO);
        CHECK.is("so many hours", x.about(0, 7), 4);
        CHECK.is("none of another's", x.about(1, 7), 0);
        CHECK.is("they are free", x.at(3, 0, 8), NO);
    }

    private static void othersTakeIt() {
        Hearingpay x = some();
        x.plan(0, 0, 0, 5, 2);
        x.drop(0);
        x.plan(1, 0, 0, 4, 3);
        balances("a half of 15 is 7, twice, and one hour of 15", x, -66, -79, -50);
        CHECK.is("what it was charged", x.hearing(1, 7), 29);
        paid("taken", x, 0, 4, NO, NO, NO);
        CHECK.is("none is left", x.about(0, 7), 0);
        Hearingpay y = some();
        y.plan(0, 0, 1, 5, 2);
        y.drop(0);
        y.interpreter(1, 15, 99);
        y.plan(1, 0, 0, 30, 2);
        y.move(1, 0, 1, 6);
        balances("a half of what was paid, not of the price of then", y, -82, -159, -50);
        paid("one is left", y, 1, 5, 0, NO, NO);
    }

    private static void halvesStay() {
        Hearingpay x = some();
        x.plan(0, 0, 0, 7, 4);
        x.drop(0);
        x.plan(1, 0, 0, 8, 2);
        balances("two halves", x, -96, -64, -50);
        CHECK.is("8 ahead: the halves come back to the taker", x.drop(1), -50);
        balances("but stay with the payer", x, -96, -50, -50);
        paid("and are paid time no more", x, 0, 7, 0, NO, NO, 0);
    }

    private static void halfOfHalf() {
        Hearingpay x = some();
        x.plan(0, 0, 1, 7, 1);
        x.drop(0);
        x.plan(1, 0, 1, 7, 1);
        balances("a half of 21 is 10", x, -61, -60, -50);
        x.drop(1);
        paid("the taker's paid time", x, 1, 7, 1);
        x.plan(2, 0, 1, 7, 1);
        balances("a half of 10 is 5", x, -61, -55, -55);
        x.drop(2);
        x.plan(0, 0, 1, 7, 1);
        balances("a half of 5 is 2", x, -63, -55, -53);
    }

    private static void ownPaidTime() {
        Hearingpay x = some();
        x.plan(0, 0, 0, 5, 2);
        x.drop(0);
        x.plan(0, 3, 0, 6, 2);
        balances("one hour is its own", x, -95, -50, -50);
        CHECK.is("what it was charged", x.hearing(1, 7), 15);
        paid("taken", x, 0, 5, 0, NO, NO);
        CHECK.is("one is left", x.about(0, 7), 1);
    }

    private static void ownPaidTimeLeftAgain() {
        Hearingpay x = some();
        x.plan(0, 0, 0, 5, 1);
        x.drop(0);
        x.plan(0, 0, 0, 5, 1);
        x.drop(1);
        paid("left again", x, 0, 5, 0);
        x.plan(1, 0, 0, 5, 1);
        balances("nothing was charged for it then, so a half is nothing", x, -65, -50, -50);
        Hearingpay y = some();
        y.plan(0, 0, 0, 7, 4);
        y.drop(0);
        y.plan(0, 0, 0, 8, 3);
        CHECK.is("its own, dropped 8 ahead: nothing comes back", y.drop(1), -110);
        paid("and is paid time no more", y, 0, 7, 0, NO, NO, NO);
    }

    private static void movesLeaveAndTakeAgain() {
        Hearingpay x = some();
        x.plan(0, 0, 0, 5, 3);
        CHECK.is("two of three hours are taken again", x.move(0, 0, 0, 6), -110);
        CHECK.is("what it was charged last", x.hearing(0, 7), 15);
        paid("the one that is left", x, 0, 4, NO, 0, NO, NO, NO);
        CHECK.is("the same place costs nothing", x.move(0, 1, 0, 6), -110);
        CHECK.is("what it was charged last", x.hearing(0, 7), 0);
        Hearingpay y = some();
        y.plan(0, 0, 0, 8, 3);
        y.interpreter(0, 15, 20);
        CHECK.is("8 ahead: they do not stay paid", y.move(0, 0, 0, 9), -110);
        CHECK.is("what it was charged last", y.hearing(0, 7), 60);
    }

    private static void paidTimeGoesBy() {
        Hearingpay x = some();
        x.plan(0, 0, 0, 3, 2);
        x.drop(0);
        x.pass(2);
        paid("both are to come", x, 0, 3, 0, 0);
        x.pass(1);
        paid("the hour of now is not", x, 0, 3, NO, 0);
        CHECK.is("one hour", x.about(0, 7), 1);
        x.pass(1);
        paid("none", x, 0, 3, NO, NO);
        CHECK.is("no hour", x.about(0, 7), 0);
    }

    private static void otherInterpreter() {
        Hearingpay x = some();
        x.plan(0, 0, 0, 5, 2);
        CHECK.is("another interpreter's hours cost", x.move(0, 0, 1, 5), -122);
        paid("the old one's stay paid", x, 0, 5, 0, 0);
        paid("the new one's are taken", x, 1, 5, NO, NO);
        x.plan(1, 1, 0, 6, 1);
        balances("a half", x, -115, -57, -50);
        x.file(3, 4, 5, NO);
        x.plan(3, 2, NO, 5, 1);
        x.drop(2);
        CHECK.is("without an interpreter there is no paid time", x.about(3, 7), 0);
        CHECK.is("and nothing is charged", x.about(3, 5), -50);
    }

    /** One interpreter's paid time again and again, so that old hours could stand for new ones. */
    private static void manyHours() {
        Hearingpay x = some();
        int due = -50;
        for (int n = 0; n < 15; n++) {
            int now = x.hour();
            x.plan(0, 0, 0, now + 7, 4);
            x.drop(n);
            due -= 60;
            CHECK.is("the balance at " + now, x.about(0, 5), due);
            paid("at " + now, x, 0, now, NO, NO, NO, NO, NO, NO, NO, 0, 0, 0, 0, NO, NO, NO, NO, NO);
            x.pass(4);
            paid("at " + (now + 4), x, 0, now + 4, NO, NO, NO, 0, 0, 0, 0, NO, NO);
            x.pass(7);
            CHECK.is("no hour at " + (now + 11), x.about(0, 7), 0);
            x.pay(0, 60);
            due += 60;
            if (x.about(0, 0) == Hearingpay.LAPSED) {
                break;
            }
        }
    }
}
