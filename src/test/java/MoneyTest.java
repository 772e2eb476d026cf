/** The section "Money", which the promises 6, 10 to 12, 17 to 20 rest on. */
final class MoneyTest {
    private static final Check CHECK = new Check("MoneyTest");
    private static final int NO = Hearingpay.NONE;

    public static void main(String[] args) {
        pricesOfThen();
        givenBack();
        staysPaid();
        othersTakeIt();
        halvesStay();
        halfOfHalf();
        ownPaidTime();
        ownPaidTimeLeftAgain();
        movesLeaveAndTakeAgain();
        paidTimeGoesBy();
        otherInterpreter();
        manyHours();
        fees();
        appealAtZero();
        pricesTimesHours();
        hoursAhead();
        smallHalves();
        partsOfPaidTime();
        twoPayers();
        payersOfAnyState();
        halvesStayWithMoves();
        moveThatLeavesAndTakes();
        paidTimeAboveNow();
        begunWhenDecided();
        paidTimeInEachHour();
        endedHearingsStayCharged();
        refusedMoveLeavesNothing();
        CHECK.end();
    }

    /** The interpreters 0 and 1 know all, for 15 and 21; the matters 0 to 2 share no judge or party. */
    private static Hearingpay some() {
        Hearingpay x = new Hearingpay();
        x.interpreter(0, 15, 15);
        x.interpreter(1, 15, 21);
        x.file(0, 0, 1, 0);
        x.file(1, 2, 3, 1);
        x.file(2, 4, 5, 2);
        return x;
    }

    private static void balances(String when, Hearingpay x, int... due) {
        int sum = 0;
        for (int m = 0; m < due.length; m++) {
            CHECK.is(when + ": balance of " + m, x.about(m, 5), due[m]);
            sum += due[m];
        }
        CHECK.is(when + ": balances()", x.balances(), sum);
    }

    private static void paid(String when, Hearingpay x, int interpreter, int from, int... due) {
        for (int k = 0; k < due.length; k++) {
            CHECK.is(when + ": paidBy(" + interpreter + ", " + (from + k) + ")",
                x.paidBy(interpreter, from + k), due[k]);
        }
    }

    private static void pricesOfThen() {
        Hearingpay x = some();
        x.plan(0, 0, 0, 20, 2);
        x.interpreter(0, 15, 40);
        balances("the price of the planning", x, -80, -50, -50);
        CHECK.is("moved: the old price back, the new one charged", x.move(0, 0, 0, 30), -130);
        CHECK.is("what it was charged last", x.hearing(0, 7), 80);
        CHECK.is("dropped: the new one back", x.drop(0), -50);
        CHECK.is("what it was charged last stays told", x.hearing(0, 7), 80);
    }

    private static void givenBack() {
        Hearingpay x = some();
        x.plan(0, 0, 0, 8, 1);
        CHECK.is("8 hours ahead", x.drop(0), -50);
        CHECK.is("no paid time", x.about(0, 7), 0);
        x.plan(0, 0, 0, 7, 1);
        CHECK.is("7 hours ahead", x.drop(1), -65);
        CHECK.is("paid time", x.about(0, 7), 1);
        x.plan(1, 0, 1, 9, 1);
        x.pass(1);
        CHECK.is("moved 8 hours ahead", x.move(2, 0, 1, 20), -71);
        CHECK.is("no paid time", x.about(1, 7), 0);
        x.plan(2, 0, 0, 8, 1);
        CHECK.is("moved 7 hours ahead", x.move(3, 1, 0, 30), -80);
        CHECK.is("paid time", x.about(2, 7), 1);
    }

    private static void staysPaid() {
        Hearingpay x = some();
        x.plan(0, 0, 0, 7, 4);
        CHECK.is("nothing comes back", x.drop(0), -110);
        paid("dropped", x, 0, 6, NO, 0, 0, 0, 0, NO);
        paid("the other interpreter", x, 1, 6, NO, NO, NO, NO, NO, NO);
        CHECK.is("so many hours", x.about(0, 7), 4);
        CHECK.is("none of another's", x.about(1, 7), 0);
        CHECK.is("they are free", x.at(3, 0, 8), NO);
    }

    private static void othersTakeIt() {
        Hearingpay x = some();
        x.plan(0, 0, 0, 5, 2);
        x.drop(0);
        x.plan(1, 0, 0, 4, 3);
        balances("a half of 15 is 7, twice, and one hour of 15", x, -66, -79, -50);
        CHECK.is("what it was charged", x.hearing(1, 7), 29);
        paid("taken", x, 0, 4, NO, NO, NO);
        CHECK.is("none is left", x.about(0, 7), 0);
        Hearingpay y = some();
        y.plan(0, 0, 1, 5, 2);
        y.drop(0);
        y.interpreter(1, 15, 99);
        y.plan(1, 0, 0, 30, 2);
        y.move(1, 0, 1, 6);
        balances("a half of what was paid, not of the price of then", y, -82, -159, -50);
        paid("one is left", y, 1, 5, 0, NO, NO);
    }

    private static void halvesStay() {
        Hearingpay x = some();
        x.plan(0, 0, 0, 7, 4);
        x.drop(0);
        x.plan(1, 0, 0, 8, 2);
        balances("two halves", x, -96, -64, -50);
        CHECK.is("8 ahead: the halves come back to the taker", x.drop(1), -50);
        balances("but stay with the payer", x, -96, -50, -50);
        paid("and are paid time no more", x, 0, 7, 0, NO, NO, 0);
    }

    private static void halfOfHalf() {
        Hearingpay x = some();
        x.plan(0, 0, 1, 7, 1);
        x.drop(0);
        x.plan(1, 0, 1, 7, 1);
        balances("a half of 21 is 10", x, -61, -60, -50);
        x.drop(1);
        paid("the taker's paid time", x, 1, 7, 1);
        x.plan(2, 0, 1, 7, 1);
        balances("a half of 10 is 5", x, -61, -55, -55);
        x.drop(2);
        x.plan(0, 0, 1, 7, 1);
        balances("a half of 5 is 2", x, -63, -55, -53);
    }

    private static void ownPaidTime() {
        Hearingpay x = some();
        x.plan(0, 0, 0, 5, 2);
        x.drop(0);
        x.plan(0, 3, 0, 6, 2);
        balances("one hour is its own", x, -95, -50, -50);
        CHECK.is("what it was charged", x.hearing(1, 7), 15);
        paid("taken", x, 0, 5, 0, NO, NO);
        CHECK.is("one is left", x.about(0, 7), 1);
    }

    private static void ownPaidTimeLeftAgain() {
        Hearingpay x = some();
        x.plan(0, 0, 0, 5, 1);
        x.drop(0);
        x.plan(0, 0, 0, 5, 1);
        x.drop(1);
        paid("left again", x, 0, 5, 0);
        x.plan(1, 0, 0, 5, 1);
        balances("nothing was charged for it then, so a half is nothing", x, -65, -50, -50);
        Hearingpay y = some();
        y.plan(0, 0, 0, 7, 4);
        y.drop(0);
        y.plan(0, 0, 0, 8, 3);
        CHECK.is("its own, dropped 8 ahead: nothing comes back", y.drop(1), -110);
        paid("and is paid time no more", y, 0, 7, 0, NO, NO, NO);
    }

    private static void movesLeaveAndTakeAgain() {
        Hearingpay x = some();
        x.plan(0, 0, 0, 5, 3);
        CHECK.is("two of three hours are taken again", x.move(0, 0, 0, 6), -110);
        CHECK.is("what it was charged last", x.hearing(0, 7), 15);
        paid("the one that is left", x, 0, 4, NO, 0, NO, NO, NO);
        CHECK.is("the same place costs nothing", x.move(0, 1, 0, 6), -110);
        CHECK.is("what it was charged last", x.hearing(0, 7), 0);
        Hearingpay y = some();
        y.plan(0, 0, 0, 8, 3);
        y.interpreter(0, 15, 20);
        CHECK.is("8 ahead: they do not stay paid", y.move(0, 0, 0, 9), -110);
        CHECK.is("what it was charged last", y.hearing(0, 7), 60);
    }

    private static void paidTimeGoesBy() {
        Hearingpay x = some();
        x.plan(0, 0, 0, 3, 2);
        x.drop(0);
        x.pass(2);
        paid("both are to come", x, 0, 3, 0, 0);
        x.pass(1);
        paid("the hour of now is not", x, 0, 3, NO, 0);
        CHECK.is("one hour", x.about(0, 7), 1);
        x.pass(1);
        paid("none", x, 0, 3, NO, NO);
        CHECK.is("no hour", x.about(0, 7), 0);
    }

    private static void otherInterpreter() {
        Hearingpay x = some();
        x.plan(0, 0, 0, 5, 2);
        CHECK.is("another interpreter's hours cost", x.move(0, 0, 1, 5), -122);
        paid("the old one's stay paid", x, 0, 5, 0, 0);
        paid("the new one's are taken", x, 1, 5, NO, NO);
        x.plan(1, 1, 0, 6, 1);
        balances("a half", x, -115, -57, -50);
        x.file(3, 4, 5, NO);
        x.plan(3, 2, NO, 5, 1);
        x.drop(2);
        CHECK.is("without an interpreter there is no paid time", x.about(3, 7), 0);
        CHECK.is("and nothing is charged", x.about(3, 5), -50);
    }

    /** One interpreter's paid time again and again, so that old hours could stand for new ones. */
    private static void manyHours() {
        Hearingpay x = some();
        int due = -50;
        for (int n = 0; n < 15; n++) {
            int now = x.hour();
            x.plan(0, 0, 0, now + 7, 4);
            x.drop(n);
            due -= 60;
            CHECK.is("the balance at " + now, x.about(0, 5), due);
            CHECK.is("hours at " + now, x.about(0, 7), 4);
            paid("at " + now, x, 0, now, NO, NO, NO, NO, NO, NO, NO, 0, 0, 0, 0, NO, NO, NO, NO, NO);
            x.pass(4);
            paid("at " + (now + 4), x, 0, now + 4, NO, NO, NO, 0, 0, 0, 0, NO, NO);
            x.pass(7);
            CHECK.is("no hour at " + (now + 11), x.about(0, 7), 0);
            x.pay(0, 60);
            due += 60;
            if (x.about(0, 0) == Hearingpay.LAPSED) {
                break;
            }
        }
    }

    // ---- each sentence at its edges

    private static void fees() {
        for (int party = 0; party < 6; party++) {
            Hearingpay x = new Hearingpay();
            x.waive(party, true);
            for (int m = 0; m < 6; m++) {
                x.file(0, m, (m + 1) % 6, NO);
                CHECK.is("filed for " + m + ", waived for " + party, x.about(m, 5), m == party ? 0 : -50);
            }
            CHECK.is("balances()", x.balances(), -250);
            x.waive(party, false);
            x.file(0, party, (party + 1) % 6, NO);
            CHECK.is("waived no more", x.about(6, 5), -50);
        }
    }

    /** Matter 0 of the parties 2 and 4 is DECIDED, with a balance of so much. */
    private static Hearingpay decided(int balance) {
        Hearingpay x = new Hearingpay();
        x.file(0, 2, 4, NO);
        if (balance > -50) {
            x.pay(0, 50 + balance);
        }
        x.plan(0, 0, NO, 4, 1);
        x.notice(0, 2);
        x.notice(0, 4);
        x.pass(5);
        x.decide(0);
        return x;
    }

    private static void appealAtZero() {
        for (int balance : new int[] {-50, -49, -2, -1}) {
            CHECK.refuses("appeal with " + balance, IllegalStateException.class, () -> decided(balance), x -> x.appeal(0));
            Hearingpay free = decided(balance);
            free.waive(2, true);
            CHECK.is("waived, with " + balance, Check.answer(free, x -> x.appeal(0)), "throws IllegalStateException");
        }
        for (int balance : new int[] {0, 1, 79, 80, 81, 500}) {
            CHECK.is("appeal with " + balance, decided(balance).appeal(0), balance - 80);
            Hearingpay free = decided(balance);
            free.waive(2, true);
            CHECK.is("waived, with " + balance, free.appeal(0), balance);
            Hearingpay second = decided(balance);
            second.waive(4, true);
            CHECK.is("the second party's waiver, with " + balance, second.appeal(0), balance - 80);
        }
    }

    private static void pricesTimesHours() {
        for (int price : new int[] {1, 2, 10, 98, 99}) {
            for (int hours = 1; hours <= 4; hours++) {
                Hearingpay x = some();
                x.interpreter(3, 15, price);
                x.plan(0, 0, 3, 20, hours);
                CHECK.is("charged", x.hearing(0, 7), price * hours);
                CHECK.is("the balance", x.about(0, 5), -50 - price * hours);
                CHECK.is("given back", x.drop(0), -50);
            }
        }
        Hearingpay first = new Hearingpay();
        first.file(0, 0, 1, 0);
        first.interpreter(0, 1, 99);
        first.interpreter(0, 1, 10);
        first.plan(0, 0, 0, 20, 1);
        CHECK.is("the price of then", first.hearing(0, 7), 10);
    }

    private static void hoursAhead() {
        for (int ahead = 1; ahead <= 12; ahead++) {
            boolean isGivenBack = ahead >= 8;
            Hearingpay dropped = some();
            dropped.pass(3);
            dropped.plan(0, 0, 0, 3 + ahead, 2);
            CHECK.is("dropped " + ahead + " ahead", dropped.drop(0), isGivenBack ? -50 : -80);
            paid("dropped " + ahead + " ahead", dropped, 0, 3 + ahead, isGivenBack ? NO : 0, isGivenBack ? NO : 0, NO);
            CHECK.is("hours of paid time", dropped.about(0, 7), isGivenBack ? 0 : 2);
            Hearingpay moved = some();
            moved.pass(3);
            moved.plan(0, 0, 0, 3 + ahead, 2);
            CHECK.is("moved " + ahead + " ahead", moved.move(0, 0, 0, 40), isGivenBack ? -80 : -110);
            CHECK.is("hours of paid time", moved.about(0, 7), isGivenBack ? 0 : 2);
            Hearingpay decided = heard();
            int now = decided.hour();
            decided.plan(0, 0, 0, now + ahead, 2);
            CHECK.is("decided " + ahead + " ahead", decided.decide(0), 1);
            CHECK.is("the balance", decided.about(0, 5), isGivenBack ? -65 : -95);
            CHECK.is("hours of paid time", decided.about(0, 7), isGivenBack ? 0 : 2);
        }
    }

    /** Matter 0 was HEARD with interpreter 0, for 15. */
    private static Hearingpay heard() {
        Hearingpay x = some();
        x.plan(0, 0, 0, 4, 1);
        x.notice(0, 0);
        x.notice(0, 1);
        x.pass(5);
        return x;
    }

    private static void smallHalves() {
        int[][] halves = {{1, 0}, {2, 1}, {3, 1}, {4, 2}, {97, 48}, {98, 49}, {99, 49}};
        for (int[] half : halves) {
            Hearingpay x = some();
            x.interpreter(3, 15, half[0]);
            x.plan(0, 0, 3, 5, 3);
            x.drop(0);
            x.interpreter(3, 15, 50);
            x.plan(1, 0, 3, 5, 3);
            CHECK.is("three halves of " + half[0], x.hearing(1, 7), 3 * half[1]);
            balances("halves of " + half[0], x, -50 - 3 * half[0] + 3 * half[1], -50 - 3 * half[1], -50);
        }
        Hearingpay x = some();
        x.interpreter(3, 15, 1);
        x.plan(0, 0, 3, 5, 1);
        x.drop(0);
        x.plan(1, 0, 3, 5, 1);
        x.drop(1);
        paid("an hour that cost nothing is paid time, too", x, 3, 5, 1);
        x.plan(2, 0, 3, 5, 1);
        balances("a half of nothing", x, -51, -50, -50);
    }

    private static void partsOfPaidTime() {
        for (int from = 1; from <= 8; from++) {
            for (int hours = 1; hours <= 4; hours++) {
                Hearingpay x = some();
                x.plan(0, 0, 0, 4, 2);
                x.drop(0);
                x.plan(1, 0, 0, from, hours);
                int taken = 0;
                for (int hour = 4; hour < 6; hour++) {
                    boolean isTaken = from <= hour && hour < from + hours;
                    taken += isTaken ? 1 : 0;
                    CHECK.is("from " + from + " for " + hours + ": paidBy " + hour, x.paidBy(0, hour), isTaken ? NO : 0);
                }
                balances("from " + from + " for " + hours, x,
                    -80 + 7 * taken, -50 - 7 * taken - 15 * (hours - taken), -50);
                CHECK.is("hours that are left", x.about(0, 7), 2 - taken);
            }
        }
    }

    private static void twoPayers() {
        Hearingpay x = some();
        x.plan(0, 0, 0, 4, 1);
        x.drop(0);
        x.interpreter(0, 15, 30);
        x.plan(1, 0, 0, 5, 1);
        x.drop(1);
        x.plan(2, 0, 0, 6, 1);
        x.drop(2);
        paid("three payers", x, 0, 3, NO, 0, 1, 2, NO);
        x.plan(2, 0, 0, 4, 4);
        CHECK.is("a half of each of two, its own, and a price", x.hearing(3, 7), 7 + 15 + 0 + 30);
        balances("to each its half", x, -58, -65, -132);
    }

    private static void payersOfAnyState() {
        Hearingpay x = heard();
        x.plan(0, 0, 0, 12, 4);
        x.decide(0);
        CHECK.is("DECIDED, with paid time", x.about(0, 7), 4);
        x.plan(1, 0, 0, 12, 1);
        CHECK.is("the half goes to a DECIDED one", x.about(0, 5), -50 - 15 - 60 + 7);
        x.pay(0, 118);
        x.appeal(0);
        x.plan(1, 1, 0, 13, 1);
        CHECK.is("to a HELD_UP one", x.about(0, 5), -80 + 7);
        x.settle(0, false);
        x.close(0);
        x.plan(1, 1, 0, 14, 1);
        CHECK.is("to a CLOSED one", x.about(0, 5), -80 + 14);
        Hearingpay lapsed = some();
        lapsed.pass(50);
        lapsed.pass(45);
        lapsed.file(3, 4, 5, 0);
        lapsed.plan(0, 0, 0, 102, 2);
        lapsed.pass(5);
        CHECK.is("LAPSED", lapsed.about(0, 0), Hearingpay.LAPSED);
        CHECK.is("its hearing is dropped", lapsed.drop(0), -80);
        paid("its paid time", lapsed, 0, 101, NO, 0, 0, NO);
        lapsed.plan(3, 0, 0, 102, 1);
        CHECK.is("to a LAPSED one", lapsed.about(0, 5), -80 + 7);
    }

    private static void halvesStayWithMoves() {
        Hearingpay x = some();
        x.plan(0, 0, 0, 7, 4);
        x.drop(0);
        x.plan(1, 0, 0, 8, 2);
        balances("two halves", x, -96, -64, -50);
        CHECK.is("moved 8 ahead, to its own place: the full price", x.move(1, 0, 0, 8), -80);
        balances("the halves stay", x, -96, -80, -50);
        paid("and there is no paid time of these hours again", x, 0, 7, 0, NO, NO, 0);
    }

    private static void moveThatLeavesAndTakes() {
        for (int from = 1; from <= 10; from++) {
            Hearingpay x = some();
            x.plan(0, 0, 0, 5, 3);
            x.move(0, 0, 0, from);
            int own = Math.max(0, 3 - Math.abs(from - 5));
            CHECK.is("moved to " + from + ": own hours are free", x.hearing(0, 7), 15 * (3 - own));
            CHECK.is("the balance", x.about(0, 5), -50 - 45 - 15 * (3 - own));
            CHECK.is("what is left", x.about(0, 7), 3 - own);
            Hearingpay y = some();
            y.plan(0, 0, 0, 8, 3);
            y.move(0, 0, 0, 3 + from);
            CHECK.is("moved 8 ahead: each hour costs", y.hearing(0, 7), 45);
            CHECK.is("the balance", y.about(0, 5), -95);
            CHECK.is("nothing is left", y.about(0, 7), 0);
        }
    }

    private static void paidTimeAboveNow() {
        for (int passed = 0; passed <= 12; passed++) {
            Hearingpay x = some();
            x.plan(0, 0, 0, 7, 4);
            x.drop(0);
            if (passed > 0) {
                x.pass(passed);
            }
            int left = Math.max(0, Math.min(4, 10 - passed));
            CHECK.is("hours to come at " + passed, x.about(0, 7), left);
            for (int hour = 6; hour <= 11; hour++) {
                boolean isPaid = hour >= 7 && hour <= 10 && hour > passed;
                CHECK.is("paidBy " + hour + " at " + passed, x.paidBy(0, hour), isPaid ? 0 : NO);
            }
            x.plan(1, 0, 0, passed + 1, 4);
            int taken = Math.max(0, Math.min(10, passed + 4) - Math.max(7, passed + 1) + 1);
            CHECK.is("taken at " + passed, x.hearing(1, 7), 7 * taken + 15 * (4 - taken));
        }
    }

    private static void begunWhenDecided() {
        for (int begun = 0; begun <= 3; begun++) {
            Hearingpay x = heard();
            int from = x.hour() + 1;
            x.plan(0, 0, 0, from, 4);
            x.pass(1 + begun);
            CHECK.is("DROPPED", x.decide(0), 1);
            CHECK.is("its state", x.hearing(1, 0), Hearingpay.DROPPED);
            CHECK.is("nothing is given back", x.about(0, 5), -50 - 15 - 60);
            CHECK.is("no paid time", x.about(0, 7), 0);
            paid("none", x, 0, from, NO, NO, NO, NO);
            CHECK.is("its hours are free", x.at(3, 0, from + 3), NO);
        }
        Hearingpay x = heard();
        x.plan(0, 0, 0, x.hour() + 1, 4);
        CHECK.is("one that begins with the next hour", x.decide(0), 1);
        CHECK.is("has paid time", x.about(0, 7), 4);
    }

    /** Whatever the hour is, each hour that is paid counts, is told, and is taken. */
    private static void paidTimeInEachHour() {
        for (int now = 0; now <= 40; now++) {
            Hearingpay x = some();
            if (now > 0) {
                x.pass(now);
            }
            x.plan(0, 0, 0, now + 1, 4);
            x.drop(0);
            x.plan(0, 0, 0, now + 5, 4);
            x.drop(1);
            x.plan(0, 0, 1, now + 7, 4);
            x.drop(2);
            CHECK.is("all hours at " + now, x.about(0, 7), 12);
            paid("interpreter 0 at " + now, x, 0, now, NO, 0, 0, 0, 0, 0, 0, 0, 0, NO, NO, NO);
            paid("interpreter 1 at " + now, x, 1, now, NO, NO, NO, NO, NO, NO, NO, 0, 0, 0, 0, NO);
            x.plan(1, 0, 0, now + 1, 4);
            x.plan(1, 0, 1, now + 7, 4);
            CHECK.is("halves at " + now, x.about(1, 5), -50 - 28 - 40);
            CHECK.is("hours that are left at " + now, x.about(0, 7), 4);
        }
    }

    private static void endedHearingsStayCharged() {
        for (boolean isTold : new boolean[] {true, false}) {
            Hearingpay x = some();
            x.plan(0, 0, 0, 9, 2);
            if (isTold) {
                x.notice(0, 0);
                x.notice(0, 1);
            }
            CHECK.is("HELD or not", x.pass(11), isTold ? 1 : 0);
            CHECK.is("the balance stays", x.about(0, 5), -80);
            CHECK.is("the charge stays told", x.hearing(0, 7), 30);
            CHECK.is("no paid time", x.about(0, 7), 0);
        }
        Hearingpay x = heard();
        x.plan(0, 0, 0, 20, 2);
        x.decide(0);
        CHECK.is("DROPPED by the decision: given back", x.about(0, 5), -65);
        CHECK.is("the charge stays told", x.hearing(1, 7), 30);
        CHECK.is("of the HELD one, too", x.hearing(0, 7), 15);
    }

    private static void refusedMoveLeavesNothing() {
        Check.Setup setup = () -> {
            Hearingpay x = some();
            x.plan(0, 0, 0, 5, 2);
            x.plan(1, 1, 1, 20, 2);
            x.plan(2, 2, 1, 3, 1);
            x.drop(2);
            x.notice(0, 0);
            return x;
        };
        CHECK.refuses("move late, in a clash", IllegalStateException.class, setup, x -> x.move(0, 1, 0, 20));
        CHECK.refuses("move early, in a clash", IllegalStateException.class, setup, x -> x.move(1, 0, 1, 5));
        CHECK.refuses("plan into paid time, in a clash", IllegalStateException.class, setup, x -> x.plan(0, 0, 1, 3, 3));
    }
}
