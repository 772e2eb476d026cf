/** The empty and the full calendar, the first and the last hours. */
final class CalendarTest {
    private static final Class<IndexOutOfBoundsException> INDEX = IndexOutOfBoundsException.class;
    private static final Class<IllegalArgumentException> ARGUMENT = IllegalArgumentException.class;
    private static final Class<IllegalStateException> STATE = IllegalStateException.class;
    private static final Check CHECK = new Check("CalendarTest");
    private static final int NO = Hearingpay.NONE;

    public static void main(String[] args) {
        noMatter();
        noHearing();
        twelveMatters();
        twelveMattersStayTwelve();
        twentyFourHearings();
        twentyFourHearingsStay();
        allAtOnce();
        twoObjects();
        firstHours();
        lastHours();
        lastHearings();
        lastPaidTime();
        lastTerms();
        CHECK.end();
    }

    // ---- empty

    private static void noMatter() {
        Check.Setup none = Hearingpay::new;
        for (int number : new int[] {0, 1, 11, 12}) {
            CHECK.refuses("pay", INDEX, none, x -> x.pay(number, 1));
            CHECK.refuses("decide", INDEX, none, x -> x.decide(number));
            CHECK.refuses("appeal", INDEX, none, x -> x.appeal(number));
            CHECK.refuses("settle", INDEX, none, x -> x.settle(number, false));
            CHECK.refuses("close", INDEX, none, x -> x.close(number));
            CHECK.refuses("plan", INDEX, none, x -> x.plan(number, 0, NO, 1, 1));
            CHECK.refuses("clash", INDEX, none, x -> x.clash(number, 0, NO, 1, 1));
            CHECK.refuses("about", INDEX, none, x -> x.about(number, 0));
        }
        noHearingOf(none);
        Hearingpay x = new Hearingpay();
        CHECK.is("balances() of none", x.balances(), 0);
        CHECK.is("hour() at first", x.hour(), 0);
        CHECK.is("pass(50) without matters", x.pass(50), 0);
        CHECK.is("the first number", x.file(0, 0, 1, NO), 0);
        CHECK.is("one matter's term", x.about(0, 6), 150);
    }

    private static void noHearing() {
        Check.Setup one = () -> {
            Hearingpay x = new Hearingpay();
            x.file(0, 0, 1, NO);
            return x;
        };
        noHearingOf(one);
        CHECK.is("clash with none", one.make().clash(0, 0, NO, 0, 4), 0);
        CHECK.is("pass(50) without hearings", one.make().pass(50), 0);
        CHECK.is("the first number", one.make().plan(0, 0, NO, 1, 1), 0);
        CHECK.refuses("the second matter", INDEX, one, x -> x.about(1, 0));
    }

    private static void noHearingOf(Check.Setup setup) {
        for (int number : new int[] {0, 1, 23, 24}) {
            CHECK.refuses("move", INDEX, setup, x -> x.move(number, 0, NO, 1));
            CHECK.refuses("drop", INDEX, setup, x -> x.drop(number));
            CHECK.refuses("notice", INDEX, setup, x -> x.notice(number, 0));
            CHECK.refuses("hearing", INDEX, setup, x -> x.hearing(number, 0));
        }
        Hearingpay x = setup.make();
        for (int hour : new int[] {0, 1, 16, 999, 1000, 1003}) {
            for (int who = 0; who < 6; who++) {
                CHECK.is("party " + who + " at " + hour, x.at(2, who, hour), NO);
            }
            for (int who = 0; who < 4; who++) {
                CHECK.is("room " + who + " at " + hour, x.at(0, who, hour), NO);
                CHECK.is("judge " + who + " at " + hour, x.at(1, who, hour), NO);
                CHECK.is("interpreter " + who + " at " + hour, x.at(3, who, hour), NO);
                CHECK.is("paidBy(" + who + ", " + hour + ")", x.paidBy(who, hour), NO);
            }
        }
    }

    // ---- full

    /** Matter m is of judge m % 4 and of the parties m % 6 and (m + 1) % 6, and was filed at m. */
    private static Hearingpay twelve() {
        Hearingpay x = new Hearingpay();
        for (int m = 0; m < 12; m++) {
            x.file(m % 4, m % 6, (m + 1) % 6, m % 5 - 1);
            x.pass(1);
        }
        return x;
    }

    /** Matter m of the twelve that need no language has the hearings 2 * m and 2 * m + 1, from 20 on, an hour each. */
    private static Hearingpay full() {
        Hearingpay x = new Hearingpay();
        for (int m = 0; m < 12; m++) {
            x.file(m % 4, m % 6, (m + 1) % 6, NO);
            x.plan(m, m % 4, NO, 20 + 2 * m, 1);
            x.plan(m, m % 4, NO, 21 + 2 * m, 1);
        }
        return x;
    }

    private static void twelveMatters() {
        Hearingpay x = twelve();
        for (int m = 0; m < 12; m++) {
            int[] due = {Hearingpay.FILED, m % 4, m % 6, (m + 1) % 6, m % 5 - 1, -50, 100 + m, 0};
            for (int what = 0; what < due.length; what++) {
                CHECK.is("about(" + m + ", " + what + ")", x.about(m, what), due[what]);
            }
            CHECK.is("clash of " + m, x.clash(m, 0, NO, 20, 1), 0);
        }
        CHECK.is("balances() of twelve", x.balances(), -600);
        for (int m = 0; m < 12; m++) {
            CHECK.is("pay for " + m, x.pay(m, 9999), 9949);
        }
        CHECK.is("balances() of twelve, paid", x.balances(), 119388);
        for (int number : new int[] {12, 13}) {
            CHECK.refuses("about of twelve", INDEX, CalendarTest::twelve, y -> y.about(number, 0));
            CHECK.refuses("pay of twelve", INDEX, CalendarTest::twelve, y -> y.pay(number, 1));
            CHECK.refuses("plan of twelve", INDEX, CalendarTest::twelve, y -> y.plan(number, 0, NO, 50, 1));
        }
        Hearingpay eleven = new Hearingpay();
        for (int m = 0; m < 11; m++) {
            eleven.file(0, 0, 1, NO);
        }
        CHECK.is("the twelfth", eleven.file(3, 5, 4, 3), 11);
        CHECK.is("a thirteenth", Check.answer(eleven, y -> y.file(0, 0, 1, NO)), "throws IllegalStateException");
    }

    private static void twelveMattersStayTwelve() {
        CHECK.refuses("a thirteenth", STATE, CalendarTest::twelve, x -> x.file(0, 0, 1, NO));
        Check.Setup lapsed = () -> {
            Hearingpay x = twelve();
            x.pass(50);
            x.pass(50);
            return x;
        };
        for (int m = 0; m < 12; m++) {
            CHECK.is("LAPSED " + m, lapsed.make().about(m, 0), Hearingpay.LAPSED);
        }
        CHECK.refuses("a thirteenth behind twelve LAPSED", STATE, lapsed, x -> x.file(0, 0, 1, NO));
        Check.Setup closed = () -> {
            Hearingpay x = full();
            x.notice(0, 0);
            x.notice(0, 1);
            x.pass(21);
            x.decide(0);
            x.close(0);
            return x;
        };
        CHECK.is("one is CLOSED", closed.make().about(0, 0), Hearingpay.CLOSED);
        CHECK.refuses("a thirteenth behind a CLOSED one", STATE, closed, x -> x.file(0, 0, 1, NO));
        CHECK.refuses("a 25th behind a HELD one", STATE, closed, x -> x.plan(1, 0, NO, 90, 1));
    }

    private static void twentyFourHearings() {
        Hearingpay x = full();
        for (int h = 0; h < 24; h++) {
            int[] due = {Hearingpay.PLANNED, h / 2, h / 2 % 4, NO, 20 + h, 1, 0, 0};
            for (int what = 0; what < due.length; what++) {
                CHECK.is("hearing(" + h + ", " + what + ")", x.hearing(h, what), due[what]);
            }
            CHECK.is("its room", x.at(0, h / 2 % 4, 20 + h), h);
            CHECK.is("its judge", x.at(1, h / 2 % 4, 20 + h), h);
            CHECK.is("its second party", x.at(2, (h / 2 + 1) % 6, 20 + h), h);
            CHECK.is("its clash", x.clash(11, h / 2 % 4, NO, 20 + h, 1), 1);
        }
        CHECK.is("the 24th moves", x.move(23, 3, NO, 998), -50);
        CHECK.is("its new hour", x.at(0, 3, 998), 23);
        CHECK.is("the 24th is told of", x.notice(23, 5), true);
        CHECK.is("the 24th is dropped", x.drop(23), -50);
        for (int number : new int[] {24, 25}) {
            CHECK.refuses("move of 24", INDEX, CalendarTest::full, y -> y.move(number, 0, NO, 90));
            CHECK.refuses("drop of 24", INDEX, CalendarTest::full, y -> y.drop(number));
            CHECK.refuses("notice of 24", INDEX, CalendarTest::full, y -> y.notice(number, 0));
            CHECK.refuses("hearing of 24", INDEX, CalendarTest::full, y -> y.hearing(number, 0));
        }
    }

    private static void twentyFourHearingsStay() {
        CHECK.refuses("a 25th", STATE, CalendarTest::full, x -> x.plan(0, 0, NO, 90, 1));
        Check.Setup dropped = () -> {
            Hearingpay x = full();
            for (int h = 0; h < 24; h++) {
                x.drop(h);
            }
            return x;
        };
        CHECK.refuses("a 25th behind 24 DROPPED", STATE, dropped, x -> x.plan(0, 0, NO, 90, 1));
        Check.Setup failed = () -> {
            Hearingpay x = full();
            x.pass(50);
            return x;
        };
        CHECK.refuses("a 25th behind 24 FAILED", STATE, failed, x -> x.plan(0, 0, NO, 90, 1));
        Hearingpay x = new Hearingpay();
        x.file(0, 0, 1, NO);
        for (int h = 0; h < 23; h++) {
            x.plan(0, 0, NO, 20 + h, 1);
        }
        CHECK.is("a refused call takes no number", Check.answer(x, y -> y.plan(0, 0, NO, 42, 1)),
            "throws IllegalStateException");
        CHECK.is("the 24th", x.plan(0, 0, NO, 999, 4), 23);
        CHECK.is("a 25th", Check.answer(x, y -> y.plan(0, 0, NO, 90, 1)), "throws IllegalStateException");
    }

    private static void allAtOnce() {
        Hearingpay x = full();
        for (int h = 0; h < 24; h++) {
            x.notice(h, h / 2 % 6);
            x.notice(h, (h / 2 + 1) % 6);
        }
        CHECK.is("24 are HELD", x.pass(50), 24);
        for (int m = 0; m < 12; m++) {
            CHECK.is("HEARD " + m, x.about(m, 0), Hearingpay.HEARD);
        }
        Hearingpay one = new Hearingpay();
        one.file(0, 0, 1, NO);
        for (int h = 0; h < 24; h++) {
            one.plan(0, 0, NO, 10 + h, 1);
        }
        one.notice(0, 0);
        one.notice(0, 1);
        CHECK.is("one is HELD", one.pass(11), 1);
        CHECK.is("23 are DROPPED", one.decide(0), 23);
        CHECK.is("the first stays HELD", one.hearing(0, 0), Hearingpay.HELD);
        CHECK.is("the last is DROPPED", one.hearing(23, 0), Hearingpay.DROPPED);
    }

    private static void twoObjects() {
        Hearingpay one = full();
        Hearingpay other = new Hearingpay();
        one.waive(0, true);
        one.interpreter(0, 15, 99);
        one.pass(50);
        CHECK.is("its own hour", other.hour(), 0);
        CHECK.is("its own prices", other.interpreter(0, 0, 10), 10);
        CHECK.is("its own waivers", other.waive(0, false), false);
        CHECK.is("its own matters", other.file(0, 0, 1, NO), 0);
        CHECK.is("its own hearings", other.plan(0, 0, NO, 20, 1), 0);
        CHECK.is("its own balances", other.balances(), -50);
    }

    // ---- the first hours

    private static Hearingpay first() {
        Hearingpay x = new Hearingpay();
        x.interpreter(0, 1, 10);
        x.file(0, 0, 1, 0);
        x.file(1, 2, 3, 0);
        return x;
    }

    private static void firstHours() {
        CHECK.refusesEach("plan from", ARGUMENT, CalendarTest::first, (x, v) -> x.plan(0, 0, 0, v, 1), 0, -1);
        Hearingpay x = first();
        CHECK.is("plan from 1", x.plan(0, 0, 0, 1, 2), 0);
        CHECK.is("at 0", x.at(0, 0, 0), NO);
        CHECK.is("at 1", x.at(0, 0, 1), 0);
        CHECK.is("at 2", x.at(0, 0, 2), 0);
        CHECK.is("clash of 0", x.clash(1, 0, 0, 0, 1), 0);
        CHECK.is("clash of 0 and 1", x.clash(1, 0, 0, 0, 2), 1);
        CHECK.is("a notice an hour ahead", x.notice(0, 0), false);
        CHECK.is("it stays paid", x.drop(0), -70);
        CHECK.is("paidBy(0, 0)", x.paidBy(0, 0), NO);
        CHECK.is("paidBy(0, 1)", x.paidBy(0, 1), 0);
        CHECK.is("paidBy(0, 2)", x.paidBy(0, 2), 0);
        CHECK.is("paidBy(0, 3)", x.paidBy(0, 3), NO);
        CHECK.is("two hours", x.about(0, 7), 2);
        x.pass(1);
        CHECK.is("the hour of now", x.paidBy(0, 1), NO);
        CHECK.is("one hour", x.about(0, 7), 1);
        x.pass(1);
        CHECK.is("no hour", x.about(0, 7), 0);
        Hearingpay y = first();
        CHECK.is("plan from 1 for an hour", y.plan(0, 0, 0, 1, 1), 0);
        CHECK.is("it begins", y.pass(1), 0);
        CHECK.is("it is PLANNED", y.hearing(0, 0), Hearingpay.PLANNED);
        y.pass(1);
        CHECK.is("it is over", y.hearing(0, 0), Hearingpay.FAILED);
    }

    // ---- the last hours

    private static Hearingpay to(Hearingpay x, int hour) {
        while (x.hour() < hour) {
            x.pass(Math.min(50, hour - x.hour()));
        }
        return x;
    }

    private static Hearingpay late(int hour) {
        Hearingpay x = to(new Hearingpay(), hour);
        x.interpreter(0, 1, 10);
        x.file(0, 0, 1, 0);
        x.file(1, 2, 3, 0);
        return x;
    }

    private static void lastHours() {
        CHECK.is("pass(50) of 950", late(950).pass(50), 0);
        CHECK.is("pass(49) of 951", late(951).pass(49), 0);
        CHECK.is("pass(1) of 999", late(999).pass(1), 0);
        CHECK.is("hour() then", to(late(999), 1000).hour(), 1000);
        CHECK.refuses("pass(50) of 951", STATE, () -> late(951), x -> x.pass(50));
        CHECK.refuses("pass(2) of 999", STATE, () -> late(999), x -> x.pass(2));
        CHECK.refusesEach("pass of 1000", STATE, () -> late(1000), (x, v) -> x.pass(v), 1, 2, 49, 50);
        CHECK.refusesEach("pass of 1000", ARGUMENT, () -> late(1000), (x, v) -> x.pass(v), 0, -1, 51);
        CHECK.acceptsEach("plan of 998 from", () -> late(998), (x, v) -> x.plan(0, 0, 0, v, 4), 999);
        CHECK.refusesEach("plan of 998 from", ARGUMENT, () -> late(998), (x, v) -> x.plan(0, 0, 0, v, 1), 998, 1000);
        CHECK.refusesEach("plan of 999 from", ARGUMENT, () -> late(999), (x, v) -> x.plan(0, 0, 0, v, 1), 999, 1000);
        CHECK.refusesEach("plan of 1000 from", ARGUMENT, () -> late(1000), (x, v) -> x.plan(0, 0, 0, v, 1),
            998, 999, 1000, 1001);
        Check.Setup planned = () -> {
            Hearingpay x = late(990);
            x.plan(0, 0, 0, 995, 1);
            return x;
        };
        CHECK.acceptsEach("move of 990 to", planned, (x, v) -> x.move(0, 0, 0, v), 991, 999);
        CHECK.refusesEach("move of 990 to", ARGUMENT, planned, (x, v) -> x.move(0, 0, 0, v), 990, 1000);
        Hearingpay x = late(1000);
        CHECK.is("filed at 1000", x.file(2, 4, 5, 0), 2);
        CHECK.is("its end", x.about(2, 6), 1100);
        CHECK.is("clash from 999 for 4 hours", x.clash(0, 0, 0, 999, 4), 0);
    }

    private static void lastHearings() {
        for (int hours = 1; hours <= 4; hours++) {
            Hearingpay x = late(990);
            x.plan(0, 3, 0, 999, hours);
            x.notice(0, 0);
            x.notice(0, 1);
            CHECK.is("its last hour", x.at(3, 0, 998 + hours), 0);
            CHECK.is("ahead of it", x.at(3, 0, 998), NO);
            CHECK.is("behind it", x.at(3, 0, 999 + hours), NO);
            CHECK.is("one of 1 hour alone is HELD", x.pass(10), hours == 1 ? 1 : 0);
            CHECK.is("the others are not over", x.hearing(0, 0), hours == 1 ? Hearingpay.HELD : Hearingpay.PLANNED);
            CHECK.is("in its last hour", x.at(0, 3, 998 + hours), hours == 1 ? NO : 0);
        }
        Hearingpay x = late(990);
        x.plan(0, 3, 0, 991, 1);
        x.notice(0, 0);
        x.plan(0, 3, 0, 999, 4);
        x.move(0, 3, 0, 994);
        x.notice(0, 0);
        x.notice(0, 1);
        CHECK.is("HELD at 995", x.pass(10), 1);
        CHECK.is("the begun one is DROPPED", x.decide(0), 1);
        CHECK.is("and no paid time", x.about(0, 7), 0);
        CHECK.is("at 1001 neither", x.paidBy(0, 1001), NO);
        CHECK.is("and nothing is given back", x.about(0, 5), -110);
    }

    private static void lastPaidTime() {
        Hearingpay x = late(992);
        x.plan(0, 0, 0, 999, 4);
        CHECK.is("7 ahead: it stays paid", x.drop(0), -90);
        CHECK.is("paidBy(0, 998)", x.paidBy(0, 998), NO);
        for (int hour = 999; hour <= 1002; hour++) {
            CHECK.is("paidBy(0, " + hour + ")", x.paidBy(0, hour), 0);
        }
        CHECK.is("paidBy(0, 1003)", x.paidBy(0, 1003), NO);
        CHECK.is("four hours", x.about(0, 7), 4);
        x.pass(8);
        CHECK.is("the hour of now", x.paidBy(0, 1000), NO);
        CHECK.is("the next one", x.paidBy(0, 1001), 0);
        CHECK.is("the last one", x.paidBy(0, 1002), 0);
        CHECK.is("two hours", x.about(0, 7), 2);
        Hearingpay y = late(992);
        y.plan(0, 0, 0, 999, 4);
        y.drop(0);
        y.pass(6);
        y.plan(1, 0, 0, 999, 4);
        CHECK.is("others take the last hours", y.about(1, 5), -70);
        CHECK.is("and the halves come", y.about(0, 5), -70);
        Hearingpay z = late(991);
        z.plan(0, 0, 0, 999, 4);
        CHECK.is("8 ahead: it is given back", z.drop(0), -50);
        CHECK.is("and no paid time", z.about(0, 7), 0);
    }

    private static void lastTerms() {
        CHECK.is("filed at 900", to(late(900), 1000).about(0, 0), Hearingpay.LAPSED);
        CHECK.is("filed at 901", to(late(901), 1000).about(0, 0), Hearingpay.FILED);
        CHECK.is("its end", to(late(901), 1000).about(0, 6), 1001);
        Hearingpay x = late(901);
        x.plan(0, 0, 0, 910, 1);
        x.notice(0, 0);
        x.notice(0, 1);
        to(x, 911);
        x.decide(0);
        x.pay(0, 60);
        x.appeal(0);
        to(x, 1000);
        CHECK.is("HELD_UP up to the last hour", x.about(0, 6), 1090);
        CHECK.is("granted then", x.settle(0, true), 1090);
    }
}
