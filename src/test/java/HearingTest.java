/** Promises 10 to 14: plan, move, drop, notice, pass. What they cost is in MoneyTest. */
final class HearingTest {
    private static final Class<IndexOutOfBoundsException> INDEX = IndexOutOfBoundsException.class;
    private static final Class<IllegalArgumentException> ARGUMENT = IllegalArgumentException.class;
    private static final Class<IllegalStateException> STATE = IllegalStateException.class;
    private static final Check CHECK = new Check("HearingTest");
    private static final int NO = Hearingpay.NONE;

    public static void main(String[] args) {
        plan();
        planOfStates();
        planRefusals();
        planClashes();
        move();
        moveRefusals();
        drop();
        notice();
        noticeRefusals();
        pass();
        passOfHearings();
        passRefusals();
        CHECK.end();
    }

    /**
     * Matter 0 needs language 0, which the interpreters 0 and 1 know, matter 1 none; hearing 0 of
     * matter 0 is from 10 to 12 in room 0 with interpreter 0, hearing 1 of matter 1 from 15 to 16;
     * the hour is 1.
     */
    private static Hearingpay some() {
        Hearingpay x = new Hearingpay();
        x.interpreter(0, 1, 10);
        x.interpreter(1, 3, 20);
        x.interpreter(2, 2, 30);
        x.file(0, 0, 1, 0);
        x.file(1, 2, 3, NO);
        x.pass(1);
        x.plan(0, 0, 0, 10, 2);
        x.plan(1, 1, NO, 15, 1);
        return x;
    }

    private static Hearingpay someBegun() {
        Hearingpay x = some();
        x.pass(9);
        return x;
    }

    private static Hearingpay someDropped() {
        Hearingpay x = some();
        x.drop(0);
        return x;
    }

    private static Hearingpay someFailed() {
        Hearingpay x = some();
        x.pass(11);
        return x;
    }

    private static Hearingpay someHeld() {
        Hearingpay x = some();
        x.notice(0, 0);
        x.notice(0, 1);
        x.pass(11);
        return x;
    }

    private static Hearingpay someLapsed() {
        Hearingpay x = some();
        x.plan(0, 0, 0, 200, 1);
        x.pass(50);
        x.pass(50);
        return x;
    }

    private static Hearingpay full() {
        Hearingpay x = new Hearingpay();
        x.file(0, 0, 1, NO);
        for (int i = 0; i < 24; i++) {
            x.plan(0, 0, NO, 20 + i, 1);
        }
        return x;
    }

    private static void told(String when, Hearingpay x, int hearing, int... due) {
        for (int what = 0; what < due.length; what++) {
            CHECK.is(when + ": hearing(" + hearing + ", " + what + ")", x.hearing(hearing, what), due[what]);
        }
    }

    private static void plan() {
        Hearingpay x = some();
        CHECK.is("plan(0, 3, 1, 2, 4)", x.plan(0, 3, 1, 2, 4), 2);
        told("planned", x, 2, Hearingpay.PLANNED, 0, 3, 1, 2, 4, 0, 80);
        CHECK.is("plan(1, 0, NONE, 999, 4)", x.plan(1, 0, NO, 999, 4), 3);
        told("planned", x, 3, Hearingpay.PLANNED, 1, 0, NO, 999, 4, 0, 0);
        CHECK.is("the 24th", full().hearing(23, 4), 43);
    }

    private static void planOfStates() {
        Hearingpay held = someHeld();
        CHECK.is("a HEARD matter", held.plan(0, 0, 0, 20, 1), 2);
        held.decide(0);
        CHECK.is("a DECIDED one", Check.answer(held, y -> y.plan(0, 0, 0, 30, 1)), "throws IllegalStateException");
        held.pay(0, 200);
        held.appeal(0);
        CHECK.is("a HELD_UP one", Check.answer(held, y -> y.plan(0, 0, 0, 30, 1)), "throws IllegalStateException");
        held.settle(0, true);
        CHECK.is("FILED again", held.plan(0, 0, 0, 30, 1), 3);
        CHECK.refuses("plan of a LAPSED one", STATE, HearingTest::someLapsed, y -> y.plan(0, 0, 0, 300, 1));
    }

    private static void planRefusals() {
        Check.Setup some = HearingTest::some;
        CHECK.refuses("plan(-1, ..)", INDEX, some, y -> y.plan(-1, 0, 0, 20, 1));
        CHECK.refuses("plan(2, ..)", INDEX, some, y -> y.plan(2, 0, 0, 20, 1));
        CHECK.refuses("room -1", INDEX, some, y -> y.plan(0, -1, 0, 20, 1));
        CHECK.refuses("room 4", INDEX, some, y -> y.plan(0, 4, 0, 20, 1));
        CHECK.refuses("interpreter -2", INDEX, some, y -> y.plan(0, 0, -2, 20, 1));
        CHECK.refuses("interpreter 4", INDEX, some, y -> y.plan(0, 0, 4, 20, 1));
        CHECK.refuses("interpreter 4, hours 0", INDEX, some, y -> y.plan(0, 0, 4, 20, 0));
        CHECK.refuses("matter 1 of 24 hearings", INDEX, HearingTest::full, y -> y.plan(1, 0, NO, 90, 1));
        CHECK.refuses("the hour of now", ARGUMENT, some, y -> y.plan(0, 0, 0, 1, 1));
        CHECK.refuses("an hour gone by", ARGUMENT, some, y -> y.plan(0, 0, 0, 0, 1));
        CHECK.refuses("from 1000", ARGUMENT, some, y -> y.plan(0, 0, 0, 1000, 1));
        CHECK.refuses("from MAX", ARGUMENT, some, y -> y.plan(0, 0, 0, Integer.MAX_VALUE, 4));
        CHECK.refuses("hours 0", ARGUMENT, some, y -> y.plan(0, 0, 0, 20, 0));
        CHECK.refuses("hours 5", ARGUMENT, some, y -> y.plan(0, 0, 0, 20, 5));
        CHECK.refuses("hours 5, a clash", ARGUMENT, some, y -> y.plan(0, 0, 0, 10, 5));
        CHECK.refuses("hours MIN", ARGUMENT, some, y -> y.plan(0, 0, 0, 20, Integer.MIN_VALUE));
        CHECK.refuses("hours 0 of 24 hearings", ARGUMENT, HearingTest::full, y -> y.plan(0, 0, NO, 90, 0));
        CHECK.refuses("no interpreter", STATE, some, y -> y.plan(0, 0, NO, 20, 1));
        CHECK.refuses("one who does not know it", STATE, some, y -> y.plan(0, 0, 2, 20, 1));
        CHECK.refuses("one whom nobody told of", STATE, some, y -> y.plan(0, 0, 3, 20, 1));
        CHECK.refuses("one whom it does not need", STATE, some, y -> y.plan(1, 0, 0, 20, 1));
        CHECK.refuses("a 25th", STATE, HearingTest::full, y -> y.plan(0, 0, NO, 90, 1));
    }

    private static void planClashes() {
        Check.Setup some = HearingTest::some;
        CHECK.refuses("the first hour", STATE, some, y -> y.plan(1, 0, NO, 7, 4));
        CHECK.refuses("the last hour", STATE, some, y -> y.plan(1, 0, NO, 11, 1));
        CHECK.refuses("its own judge", STATE, some, y -> y.plan(0, 1, 1, 10, 1));
        CHECK.is("up to its first hour", some().plan(1, 0, NO, 6, 4), 2);
        CHECK.is("behind its last hour", some().plan(1, 0, NO, 12, 1), 2);
        CHECK.is("nothing shared", some().plan(1, 1, NO, 10, 2), 2);
        CHECK.is("a DROPPED one does not clash", someDropped().plan(1, 0, NO, 10, 2), 2);
    }

    private static void move() {
        Hearingpay x = some();
        x.notice(0, 0);
        x.notice(0, 1);
        CHECK.is("the balance then", x.move(0, 2, 1, 20), -90);
        told("moved", x, 0, Hearingpay.PLANNED, 0, 2, 1, 20, 2, 0, 40);
        CHECK.is("the old place is free", x.at(0, 0, 10), NO);
        CHECK.is("the new one is not", x.at(0, 2, 21), 0);
        CHECK.is("itself does not count", x.move(0, 2, 1, 21), -90);
        CHECK.is("the same place", x.move(0, 2, 1, 21), -90);
        CHECK.is("up to 999", x.move(0, 2, 1, 999), -90);
        CHECK.is("to the next hour", x.move(0, 3, 0, 2), -70);
        Hearingpay lapsed = someLapsed();
        CHECK.is("a LAPSED matter's hearing", lapsed.move(2, 0, 0, 210), -80);
        Hearingpay told = some();
        told.notice(0, 0);
        told.notice(0, 1);
        Check.answer(told, y -> y.move(0, 1, 0, 15));
        CHECK.is("a refused move leaves the notices", told.hearing(0, 6), 2);
        told.move(0, 0, 0, 10);
        CHECK.is("a move to its own place does not", told.hearing(0, 6), 0);
    }

    private static void moveRefusals() {
        Check.Setup some = HearingTest::some;
        CHECK.refuses("move(-1, ..)", INDEX, some, y -> y.move(-1, 0, 0, 20));
        CHECK.refuses("move(2, ..)", INDEX, some, y -> y.move(2, 0, 0, 20));
        CHECK.refuses("move(24, ..)", INDEX, HearingTest::full, y -> y.move(24, 0, NO, 90));
        CHECK.refuses("room -1", INDEX, some, y -> y.move(0, -1, 0, 20));
        CHECK.refuses("room 4", INDEX, some, y -> y.move(0, 4, 0, 20));
        CHECK.refuses("interpreter -2", INDEX, some, y -> y.move(0, 0, -2, 20));
        CHECK.refuses("interpreter 4, from 0", INDEX, some, y -> y.move(0, 0, 4, 0));
        CHECK.refuses("room 4 of a DROPPED one", INDEX, HearingTest::someDropped, y -> y.move(0, 4, 0, 20));
        CHECK.refuses("the hour of now", ARGUMENT, some, y -> y.move(0, 0, 0, 1));
        CHECK.refuses("from 1000", ARGUMENT, some, y -> y.move(0, 0, 0, 1000));
        CHECK.refuses("from -1 of a begun one", ARGUMENT, HearingTest::someBegun, y -> y.move(0, 0, 0, -1));
        CHECK.refuses("a begun one", STATE, HearingTest::someBegun, y -> y.move(0, 0, 0, 20));
        CHECK.refuses("a DROPPED one", STATE, HearingTest::someDropped, y -> y.move(0, 0, 0, 20));
        CHECK.refuses("a FAILED one", STATE, HearingTest::someFailed, y -> y.move(0, 0, 0, 20));
        CHECK.refuses("a HELD one", STATE, HearingTest::someHeld, y -> y.move(0, 0, 0, 20));
        CHECK.refuses("no interpreter", STATE, some, y -> y.move(0, 0, NO, 20));
        CHECK.refuses("one who does not know it", STATE, some, y -> y.move(0, 0, 2, 20));
        CHECK.refuses("one whom it does not need", STATE, some, y -> y.move(1, 0, 0, 20));
        CHECK.refuses("the other's room", STATE, some, y -> y.move(0, 1, 0, 14));
        CHECK.refuses("the other's room, too", STATE, some, y -> y.move(1, 0, NO, 11));
    }

    private static void drop() {
        Hearingpay x = some();
        CHECK.is("the balance then", x.drop(0), -50);
        CHECK.is("the state", x.hearing(0, 0), Hearingpay.DROPPED);
        CHECK.is("the place stays told", x.hearing(0, 4), 10);
        CHECK.is("its hour is free", x.at(0, 0, 10), NO);
        x.pass(11);
        CHECK.is("it stays DROPPED", x.hearing(0, 0), Hearingpay.DROPPED);
        Hearingpay late = some();
        late.pass(8);
        CHECK.is("an hour ahead", late.drop(0), -70);
        CHECK.refuses("drop(-1)", INDEX, HearingTest::some, y -> y.drop(-1));
        CHECK.refuses("drop(2)", INDEX, HearingTest::some, y -> y.drop(2));
        CHECK.refuses("drop(24)", INDEX, HearingTest::full, y -> y.drop(24));
        CHECK.refuses("a begun one", STATE, HearingTest::someBegun, y -> y.drop(0));
        CHECK.refuses("a DROPPED one", STATE, HearingTest::someDropped, y -> y.drop(0));
        CHECK.refuses("a FAILED one", STATE, HearingTest::someFailed, y -> y.drop(0));
        CHECK.refuses("a HELD one", STATE, HearingTest::someHeld, y -> y.drop(0));
    }

    private static void notice() {
        Hearingpay x = some();
        CHECK.is("the first party", x.notice(0, 0), true);
        CHECK.is("one counts", x.hearing(0, 6), 1);
        CHECK.is("the first party again", x.notice(0, 0), true);
        CHECK.is("one party, one notice", x.hearing(0, 6), 1);
        x.pass(5);
        CHECK.is("4 hours ahead", x.notice(0, 1), true);
        CHECK.is("two count", x.hearing(0, 6), 2);
        x.pass(1);
        CHECK.is("3 hours ahead", x.notice(0, 1), false);
        CHECK.is("the earlier one stays", x.hearing(0, 6), 2);
        CHECK.is("another hearing's are its own", x.hearing(1, 6), 0);
        x.pass(4);
        CHECK.is("a begun one", x.notice(0, 0), false);
        Hearingpay late = some();
        late.pass(6);
        CHECK.is("too late", late.notice(0, 0), false);
        CHECK.is("none counts", late.hearing(0, 6), 0);
    }

    private static void noticeRefusals() {
        Check.Setup some = HearingTest::some;
        CHECK.refuses("notice(-1, 0)", INDEX, some, y -> y.notice(-1, 0));
        CHECK.refuses("notice(2, 0)", INDEX, some, y -> y.notice(2, 0));
        CHECK.refuses("notice(0, -1)", INDEX, some, y -> y.notice(0, -1));
        CHECK.refuses("notice(0, 6)", INDEX, some, y -> y.notice(0, 6));
        CHECK.refuses("notice(0, 6) of a DROPPED one", INDEX, HearingTest::someDropped, y -> y.notice(0, 6));
        CHECK.refuses("none of its matter", ARGUMENT, some, y -> y.notice(0, 2));
        CHECK.refuses("none of a DROPPED one's", ARGUMENT, HearingTest::someDropped, y -> y.notice(0, 2));
        CHECK.refuses("a DROPPED one", STATE, HearingTest::someDropped, y -> y.notice(0, 1));
        CHECK.refuses("a FAILED one", STATE, HearingTest::someFailed, y -> y.notice(0, 1));
        CHECK.refuses("a HELD one", STATE, HearingTest::someHeld, y -> y.notice(0, 1));
    }

    private static void pass() {
        Hearingpay x = new Hearingpay();
        CHECK.is("pass(1)", x.pass(1), 0);
        CHECK.is("hour()", x.hour(), 1);
        for (int i = 0; i < 19; i++) {
            x.pass(50);
        }
        CHECK.is("pass(49)", x.pass(49), 0);
        CHECK.is("up to 1000", x.hour(), 1000);
        CHECK.is("pass(1) of 1000", Check.answer(x, y -> y.pass(1)), "throws IllegalStateException");
        CHECK.is("hour()", x.hour(), 1000);
        CHECK.is("nothing can be planned any more", Check.answer(lastHour(), y -> y.plan(0, 0, NO, 1000, 1)),
            "throws IllegalArgumentException");
    }

    private static Hearingpay lastHour() {
        Hearingpay x = new Hearingpay();
        for (int i = 0; i < 19; i++) {
            x.pass(50);
        }
        x.pass(45);
        x.file(0, 0, 1, NO);
        x.plan(0, 0, NO, 999, 1);
        x.notice(0, 0);
        x.notice(0, 1);
        x.file(1, 2, 3, NO);
        x.plan(1, 1, NO, 999, 2);
        return x;
    }

    private static void passOfHearings() {
        Hearingpay x = some();
        x.notice(0, 0);
        x.notice(0, 1);
        x.notice(1, 2);
        CHECK.is("up to its last hour", x.pass(10), 0);
        CHECK.is("still PLANNED", x.hearing(0, 0), Hearingpay.PLANNED);
        CHECK.is("its last hour goes by", x.pass(1), 1);
        CHECK.is("HELD", x.hearing(0, 0), Hearingpay.HELD);
        CHECK.is("HEARD", x.about(0, 0), Hearingpay.HEARD);
        CHECK.is("one notice is too few", x.pass(4), 0);
        CHECK.is("FAILED", x.hearing(1, 0), Hearingpay.FAILED);
        CHECK.is("FILED", x.about(1, 0), Hearingpay.FILED);
        Hearingpay second = someHeld();
        second.plan(0, 0, 0, 20, 1);
        second.notice(2, 0);
        second.notice(2, 1);
        second.plan(0, 0, 0, 30, 1);
        second.notice(3, 0);
        second.notice(3, 1);
        CHECK.is("two in one call, of a HEARD matter", second.pass(40), 2);
        CHECK.is("HEARD", second.about(0, 0), Hearingpay.HEARD);
        Hearingpay last = lastHour();
        CHECK.is("the last hour of all", last.pass(5), 1);
        CHECK.is("one that does not end", last.hearing(1, 0), Hearingpay.PLANNED);
        CHECK.is("has its last hour", last.at(0, 1, 1000), 1);
    }

    private static void passRefusals() {
        CHECK.refuses("pass(0)", ARGUMENT, HearingTest::some, y -> y.pass(0));
        CHECK.refuses("pass(-1)", ARGUMENT, HearingTest::some, y -> y.pass(-1));
        CHECK.refuses("pass(51)", ARGUMENT, HearingTest::some, y -> y.pass(51));
        CHECK.refuses("pass(MAX)", ARGUMENT, HearingTest::some, y -> y.pass(Integer.MAX_VALUE));
        CHECK.refuses("pass(51) near the end", ARGUMENT, HearingTest::lastHour, y -> y.pass(51));
        CHECK.refuses("pass(6) of 995", STATE, HearingTest::lastHour, y -> y.pass(6));
        CHECK.refuses("pass(50) of 995", STATE, HearingTest::lastHour, y -> y.pass(50));
    }
}
