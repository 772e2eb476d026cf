/** Promises 6 to 9: decide, appeal, settle, close; and the terms of matters. */
final class MatterTest {
    private static final Class<IndexOutOfBoundsException> INDEX = IndexOutOfBoundsException.class;
    private static final Class<IllegalStateException> STATE = IllegalStateException.class;
    private static final Check CHECK = new Check("MatterTest");
    private static final int NO = Hearingpay.NONE;

    public static void main(String[] args) {
        decide();
        decideGivesBack();
        appeal();
        settle();
        close();
        terms();
        termOfTheSameHour();
        termOfDecided();
        refusals();
        CHECK.end();
    }

    /** Matter 0 needs language 0, interpreter 0 costs 10, the hour is 0. */
    private static Hearingpay filed() {
        Hearingpay x = new Hearingpay();
        x.interpreter(0, 1, 10);
        x.file(0, 0, 1, 0);
        return x;
    }

    /** Matter 0 was heard from 4 to 5, which is the hour of now. */
    private static Hearingpay heard() {
        Hearingpay x = filed();
        x.plan(0, 0, 0, 4, 1);
        x.notice(0, 0);
        x.notice(0, 1);
        x.pass(5);
        return x;
    }

    private static Hearingpay decided() {
        Hearingpay x = heard();
        x.decide(0);
        return x;
    }

    private static Hearingpay heldUp() {
        Hearingpay x = decided();
        x.pay(0, 100);
        x.appeal(0);
        return x;
    }

    private static Hearingpay closed() {
        Hearingpay x = decided();
        x.close(0);
        return x;
    }

    private static Hearingpay lapsed() {
        Hearingpay x = filed();
        x.pass(50);
        x.pass(50);
        return x;
    }

    private static void decide() {
        Hearingpay x = heard();
        CHECK.is("nothing is planned any more", x.decide(0), 0);
        CHECK.is("the state", x.about(0, 0), Hearingpay.DECIDED);
        Hearingpay y = heard();
        y.plan(0, 0, 0, 20, 2);
        y.plan(0, 1, 0, 30, 1);
        y.plan(0, 1, 0, 40, 1);
        y.drop(2);
        y.file(1, 2, 3, NO);
        y.plan(1, 2, NO, 20, 1);
        CHECK.is("two of them are PLANNED", y.decide(0), 2);
        CHECK.is("the held one stays", y.hearing(0, 0), Hearingpay.HELD);
        CHECK.is("a planned one", y.hearing(1, 0), Hearingpay.DROPPED);
        CHECK.is("the other planned one", y.hearing(3, 0), Hearingpay.DROPPED);
        CHECK.is("the one that was dropped ahead", y.hearing(2, 0), Hearingpay.DROPPED);
        CHECK.is("another matter's stays", y.hearing(4, 0), Hearingpay.PLANNED);
        Hearingpay z = filed();
        z.plan(0, 0, 0, 30, 1);
        z.plan(0, 0, 0, 4, 1);
        z.notice(1, 0);
        z.notice(1, 1);
        z.pass(5);
        CHECK.is("hearing 0 is PLANNED", z.decide(0), 1);
        CHECK.is("and DROPPED then", z.hearing(0, 0), Hearingpay.DROPPED);
    }

    private static void decideGivesBack() {
        Hearingpay x = heard();
        x.plan(0, 0, 0, 6, 3);
        x.plan(0, 0, 0, 12, 1);
        x.plan(0, 0, 0, 13, 1);
        CHECK.is("the balance ahead", x.about(0, 5), -110);
        x.pass(1);
        CHECK.is("three were PLANNED, one has begun", x.decide(0), 3);
        CHECK.is("none is given back but what is 8 hours ahead", x.about(0, 5), -110);
        CHECK.is("begun: no paid time", x.paidBy(0, 7), NO);
        CHECK.is("6 ahead: paid time", x.paidBy(0, 12), 0);
        CHECK.is("7 ahead: paid time", x.paidBy(0, 13), 0);
        CHECK.is("so many hours", x.about(0, 7), 2);
        Hearingpay y = heard();
        y.plan(0, 0, 0, 13, 4);
        CHECK.is("the balance ahead", y.about(0, 5), -100);
        CHECK.is("decide", y.decide(0), 1);
        CHECK.is("8 hours ahead it is given back", y.about(0, 5), -60);
        CHECK.is("and no paid time", y.about(0, 7), 0);
    }

    private static void appeal() {
        Hearingpay x = decided();
        CHECK.is("below 0", Check.answer(x, y -> y.appeal(0)), "throws IllegalStateException");
        CHECK.is("it stays DECIDED", x.about(0, 0), Hearingpay.DECIDED);
        x.pay(0, 60);
        CHECK.is("a balance of 0 will do", x.appeal(0), -80);
        CHECK.is("the state", x.about(0, 0), Hearingpay.HELD_UP);
        Hearingpay free = decided();
        free.pay(0, 60);
        free.waive(1, true);
        free.waive(0, true);
        CHECK.is("waived then", free.appeal(0), 0);
        Hearingpay second = decided();
        second.pay(0, 60);
        second.waive(1, true);
        CHECK.is("the second party's waiver is none", second.appeal(0), -80);
    }

    private static void settle() {
        Hearingpay x = heldUp();
        x.pass(7);
        CHECK.is("the term by now", x.about(0, 6), 107);
        CHECK.is("dismissed", x.settle(0, false), 107);
        CHECK.is("the state", x.about(0, 0), Hearingpay.DECIDED);
        x.pass(3);
        CHECK.is("the term goes on", x.about(0, 6), 107);
        x.pay(0, 100);
        x.appeal(0);
        x.pass(1);
        CHECK.is("granted", x.settle(0, true), 108);
        CHECK.is("the state", x.about(0, 0), Hearingpay.FILED);
        CHECK.is("it must be heard anew", Check.answer(x, y -> y.decide(0)), "throws IllegalStateException");
        CHECK.is("settled at once", heldUp().settle(0, true), 100);
    }

    private static void close() {
        Hearingpay x = decided();
        CHECK.is("close(0)", x.close(0), -60);
        CHECK.is("the state", x.about(0, 0), Hearingpay.CLOSED);
        x.pass(50);
        x.pass(50);
        CHECK.is("a CLOSED one does not lapse", x.about(0, 0), Hearingpay.CLOSED);
    }

    private static void terms() {
        Hearingpay x = filed();
        x.pass(50);
        x.pass(49);
        CHECK.is("99 hours behind its filing", x.about(0, 0), Hearingpay.FILED);
        x.pass(1);
        CHECK.is("100 hours behind its filing", x.about(0, 0), Hearingpay.LAPSED);
        Hearingpay y = heard();
        y.pass(50);
        y.pass(44);
        CHECK.is("a HEARD one at 99", y.about(0, 0), Hearingpay.HEARD);
        y.pass(1);
        CHECK.is("a HEARD one at 100", y.about(0, 0), Hearingpay.LAPSED);
        Hearingpay held = heldUp();
        held.pass(50);
        held.pass(50);
        held.pass(50);
        CHECK.is("a HELD_UP one does not lapse", held.about(0, 0), Hearingpay.HELD_UP);
        CHECK.is("its term", held.settle(0, true), 250);
        held.pass(50);
        held.pass(44);
        CHECK.is("FILED again, an hour ahead of its end", held.about(0, 0), Hearingpay.FILED);
        held.pass(1);
        CHECK.is("FILED again, at its end", held.about(0, 0), Hearingpay.LAPSED);
    }

    private static void termOfTheSameHour() {
        Hearingpay x = filed();
        x.plan(0, 0, 0, 99, 1);
        x.plan(0, 0, 0, 100, 1);
        for (int hearing = 0; hearing < 2; hearing++) {
            x.notice(hearing, 0);
            x.notice(hearing, 1);
        }
        x.pass(50);
        x.pass(49);
        CHECK.is("hearings end ahead of terms", x.pass(1), 1);
        CHECK.is("it is HELD", x.hearing(0, 0), Hearingpay.HELD);
        CHECK.is("but LAPSED then", x.about(0, 0), Hearingpay.LAPSED);
        CHECK.is("the next one stays PLANNED", x.hearing(1, 0), Hearingpay.PLANNED);
        CHECK.is("and is none", x.pass(1), 0);
        CHECK.is("it FAILED", x.hearing(1, 0), Hearingpay.FAILED);
    }

    private static void termOfDecided() {
        Hearingpay x = decided();
        x.pass(50);
        x.pass(50);
        CHECK.is("a DECIDED one does not lapse", x.about(0, 0), Hearingpay.DECIDED);
        x.pay(0, 100);
        x.appeal(0);
        CHECK.is("its end is over", x.settle(0, true), 100);
        CHECK.is("FILED for now", x.about(0, 0), Hearingpay.FILED);
        x.pass(1);
        CHECK.is("LAPSED with the next hour", x.about(0, 0), Hearingpay.LAPSED);
    }

    private static void refusals() {
        Check.Setup[] all = {MatterTest::filed, MatterTest::heard, MatterTest::decided,
            MatterTest::heldUp, MatterTest::closed, MatterTest::lapsed};
        for (int state = 0; state < all.length; state++) {
            Check.Setup of = all[state];
            CHECK.is("the state that is set up", of.make().about(0, 0), state);
            if (state != Hearingpay.HEARD) {
                CHECK.refuses("decide of state " + state, STATE, of, y -> y.decide(0));
            }
            if (state != Hearingpay.DECIDED) {
                CHECK.refuses("appeal of state " + state, STATE, of, y -> y.appeal(0));
                CHECK.refuses("close of state " + state, STATE, of, y -> y.close(0));
            }
            if (state != Hearingpay.HELD_UP) {
                CHECK.refuses("settle of state " + state, STATE, of, y -> y.settle(0, true));
                CHECK.refuses("settle of state " + state, STATE, of, y -> y.settle(0, false));
            }
        }
        CHECK.refuses("appeal below 0", STATE, MatterTest::decided, y -> y.appeal(0));
        for (int none : new int[] {-1, 1, 12, Integer.MAX_VALUE, Integer.MIN_VALUE}) {
            CHECK.refuses("decide(" + none + ")", INDEX, MatterTest::heard, y -> y.decide(none));
            CHECK.refuses("appeal(" + none + ")", INDEX, MatterTest::decided, y -> y.appeal(none));
            CHECK.refuses("settle(" + none + ")", INDEX, MatterTest::heldUp, y -> y.settle(none, true));
            CHECK.refuses("close(" + none + ")", INDEX, MatterTest::decided, y -> y.close(none));
        }
    }
}
