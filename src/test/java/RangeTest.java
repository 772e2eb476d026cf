import java.util.stream.IntStream;

/** Each parameter of each call at its smallest and largest value, and at the first ones outside of these. */
final class RangeTest {
    private static final Class<IndexOutOfBoundsException> INDEX = IndexOutOfBoundsException.class;
    private static final Class<IllegalArgumentException> ARGUMENT = IllegalArgumentException.class;
    private static final Class<IllegalStateException> STATE = IllegalStateException.class;
    private static final Check CHECK = new Check("RangeTest");
    private static final int NO = Hearingpay.NONE;

    public static void main(String[] args) {
        people();
        matters();
        statesOfMatters();
        plan();
        move();
        dropNoticePass();
        clash();
        at();
        tellings();
        CHECK.end();
    }

    /**
     * The matters 0 to 2 need language 0, which all interpreters know, and share nobody; the hearings
     * 0 to 2 are theirs, of two hours each from 20, 30 and 40; the hour is 1.
     */
    private static Hearingpay some() {
        Hearingpay x = new Hearingpay();
        for (int i = 0; i < 4; i++) {
            x.interpreter(i, 1, 10);
        }
        x.pass(1);
        for (int m = 0; m < 3; m++) {
            x.file(m, 2 * m, 2 * m + 1, 0);
            x.plan(m, m, m, 20 + 10 * m, 2);
        }
        return x;
    }

    /** As some, but no matter needs a language. */
    private static Hearingpay silent() {
        Hearingpay x = new Hearingpay();
        x.pass(1);
        for (int m = 0; m < 3; m++) {
            x.file(m, 2 * m, 2 * m + 1, NO);
            x.plan(m, m, NO, 20 + 10 * m, 2);
        }
        return x;
    }

    /** The matters 0 to 2 are all of that state, HEARD to HELD_UP. */
    private static Hearingpay allOf(int state) {
        Hearingpay x = silent();
        for (int m = 0; m < 3; m++) {
            x.notice(m, 2 * m);
            x.notice(m, 2 * m + 1);
            x.pay(m, 100);
        }
        x.pass(50);
        for (int m = 0; m < 3; m++) {
            if (state >= Hearingpay.DECIDED) {
                x.decide(m);
            }
            if (state >= Hearingpay.HELD_UP) {
                x.appeal(m);
            }
        }
        return x;
    }

    private static void range(String what, Class<? extends RuntimeException> refusal, Check.Setup setup,
            int least, int most, Check.CallWith call) {
        CHECK.acceptsEach(what, setup, call, least, Math.min(least + 1, most), Math.max(least, most - 1), most);
        CHECK.refusesEach(what, refusal, setup, call, least - 1, most + 1);
        CHECK.refusesEach(what, refusal, setup, call, wrapping(least, most));
    }

    /** Values outside of the range that come into it if bits are lost, or if a little is added. */
    private static int[] wrapping(int least, int most) {
        int[] all = {Integer.MIN_VALUE, Integer.MIN_VALUE + 1, Integer.MAX_VALUE - 3, Integer.MAX_VALUE,
            least + (1 << 8), most - (1 << 8), least + (1 << 16), most - (1 << 16), most + (1 << 30)};
        return IntStream.of(all).filter(value -> value < least - 1 || value > most + 1).toArray();
    }

    private static void people() {
        Check.Setup some = RangeTest::some;
        range("interpreter: interpreter", INDEX, some, 0, 3, (x, v) -> x.interpreter(v, 2, 20));
        range("interpreter: languages", ARGUMENT, some, 0, 15, (x, v) -> x.interpreter(1, v, 20));
        range("interpreter: price", ARGUMENT, some, 1, 99, (x, v) -> x.interpreter(1, 2, v));
        range("waive: party, on", INDEX, some, 0, 5, (x, v) -> x.waive(v, true));
        range("waive: party, off", INDEX, some, 0, 5, (x, v) -> x.waive(v, false));
    }

    private static void matters() {
        Check.Setup some = RangeTest::some;
        range("file: judge", INDEX, some, 0, 3, (x, v) -> x.file(v, 2, 3, 1));
        range("file: first", INDEX, some, 0, 5, (x, v) -> x.file(1, v, 2, 1));
        range("file: second", INDEX, some, 0, 5, (x, v) -> x.file(1, 2, v, 1));
        range("file: language", INDEX, some, NO, 3, (x, v) -> x.file(1, 2, 3, v));
        for (int party = 0; party < 6; party++) {
            int same = party;
            CHECK.refuses("file: twice " + same, ARGUMENT, some, x -> x.file(1, same, same, 1));
            CHECK.acceptsEach("file: first " + same, some, (x, v) -> x.file(1, same, v, 1), same == 5 ? 0 : same + 1);
        }
        range("pay: matter", INDEX, some, 0, 2, (x, v) -> x.pay(v, 7));
        range("pay: amount", ARGUMENT, some, 1, 9999, (x, v) -> x.pay(0, v));
        CHECK.is("pay(0, 1)", some().pay(0, 1), -69);
        CHECK.is("pay(0, 9999)", some().pay(0, 9999), 9929);
    }

    private static void statesOfMatters() {
        range("decide: matter", INDEX, () -> allOf(Hearingpay.HEARD), 0, 2, (x, v) -> x.decide(v));
        range("appeal: matter", INDEX, () -> allOf(Hearingpay.DECIDED), 0, 2, (x, v) -> x.appeal(v));
        range("settle: matter, granted", INDEX, () -> allOf(Hearingpay.HELD_UP), 0, 2, (x, v) -> x.settle(v, true));
        range("settle: matter, dismissed", INDEX, () -> allOf(Hearingpay.HELD_UP), 0, 2, (x, v) -> x.settle(v, false));
        range("close: matter", INDEX, () -> allOf(Hearingpay.DECIDED), 0, 2, (x, v) -> x.close(v));
    }

    private static void plan() {
        Check.Setup some = RangeTest::some;
        range("plan: matter", INDEX, some, 0, 2, (x, v) -> x.plan(v, 3, 3, 50, 1));
        range("plan: room", INDEX, some, 0, 3, (x, v) -> x.plan(0, v, 0, 50, 1));
        CHECK.acceptsEach("plan: interpreter", some, (x, v) -> x.plan(0, 0, v, 50, 1), 0, 1, 2, 3);
        CHECK.refuses("plan: no interpreter", STATE, some, x -> x.plan(0, 0, NO, 50, 1));
        CHECK.acceptsEach("plan: no interpreter", RangeTest::silent, (x, v) -> x.plan(0, 0, v, 50, 1), NO);
        CHECK.refusesEach("plan: no need of", STATE, RangeTest::silent, (x, v) -> x.plan(0, 0, v, 50, 1), 0, 1, 2, 3);
        for (Check.Setup setup : new Check.Setup[] {some, RangeTest::silent}) {
            CHECK.refusesEach("plan: interpreter", INDEX, setup, (x, v) -> x.plan(0, 0, v, 50, 1), -2, 4);
            CHECK.refusesEach("plan: interpreter", INDEX, setup, (x, v) -> x.plan(0, 0, v, 50, 1), wrapping(NO, 3));
        }
        range("plan: from", ARGUMENT, some, 2, 999, (x, v) -> x.plan(0, 3, 3, v, 1));
        range("plan: from, 4 hours", ARGUMENT, some, 2, 999, (x, v) -> x.plan(0, 3, 3, v, 4));
        range("plan: hours", ARGUMENT, some, 1, 4, (x, v) -> x.plan(0, 3, 3, 50, v));
        range("plan: hours from 999", ARGUMENT, some, 1, 4, (x, v) -> x.plan(0, 3, 3, 999, v));
    }

    private static void move() {
        Check.Setup some = RangeTest::some;
        range("move: hearing", INDEX, some, 0, 2, (x, v) -> x.move(v, 3, 3, 50));
        range("move: room", INDEX, some, 0, 3, (x, v) -> x.move(0, v, 0, 50));
        CHECK.acceptsEach("move: interpreter", some, (x, v) -> x.move(0, 0, v, 50), 0, 1, 2, 3);
        CHECK.refuses("move: no interpreter", STATE, some, x -> x.move(0, 0, NO, 50));
        CHECK.acceptsEach("move: no interpreter", RangeTest::silent, (x, v) -> x.move(0, 0, v, 50), NO);
        CHECK.refusesEach("move: no need of", STATE, RangeTest::silent, (x, v) -> x.move(0, 0, v, 50), 0, 1, 2, 3);
        for (Check.Setup setup : new Check.Setup[] {some, RangeTest::silent}) {
            CHECK.refusesEach("move: interpreter", INDEX, setup, (x, v) -> x.move(0, 0, v, 50), -2, 4);
            CHECK.refusesEach("move: interpreter", INDEX, setup, (x, v) -> x.move(0, 0, v, 50), wrapping(NO, 3));
        }
        range("move: from", ARGUMENT, some, 2, 999, (x, v) -> x.move(0, 3, 3, v));
        range("move: from, to its own place", ARGUMENT, some, 2, 999, (x, v) -> x.move(0, 0, 0, v));
    }

    private static void dropNoticePass() {
        Check.Setup some = RangeTest::some;
        range("drop: hearing", INDEX, some, 0, 2, (x, v) -> x.drop(v));
        for (int party = 0; party < 6; party++) {
            int told = party;
            int of = told / 2;
            CHECK.acceptsEach("notice: party " + told, some, (x, v) -> x.notice(v, told), of);
            CHECK.refusesEach("notice: not of " + told, ARGUMENT, some, (x, v) -> x.notice(v, told),
                (of + 1) % 3, (of + 2) % 3);
            CHECK.refusesEach("notice: hearing", INDEX, some, (x, v) -> x.notice(v, told), -1, 3, 24);
            CHECK.refusesEach("notice: hearing", INDEX, some, (x, v) -> x.notice(v, told), wrapping(0, 2));
        }
        CHECK.refusesEach("notice: party", INDEX, some, (x, v) -> x.notice(0, v), -1, 6);
        CHECK.refusesEach("notice: party", INDEX, some, (x, v) -> x.notice(0, v), wrapping(0, 5));
        range("pass: hours", ARGUMENT, some, 1, 50, (x, v) -> x.pass(v));
        for (int hours : new int[] {1, 2, 49, 50}) {
            Hearingpay x = some();
            x.pass(hours);
            CHECK.is("hour() behind pass(" + hours + ")", x.hour(), 1 + hours);
        }
    }

    private static void clash() {
        Check.Setup some = RangeTest::some;
        range("clash: matter", INDEX, some, 0, 2, (x, v) -> x.clash(v, 3, 3, 50, 1));
        range("clash: room", INDEX, some, 0, 3, (x, v) -> x.clash(0, v, 0, 50, 1));
        range("clash: interpreter", INDEX, some, NO, 3, (x, v) -> x.clash(0, 0, v, 50, 1));
        range("clash: interpreter that nobody needs", INDEX, RangeTest::silent, NO, 3,
            (x, v) -> x.clash(0, 0, v, 50, 1));
        range("clash: from", ARGUMENT, some, 0, 999, (x, v) -> x.clash(0, 0, 0, v, 1));
        range("clash: from, 4 hours", ARGUMENT, some, 0, 999, (x, v) -> x.clash(0, 0, 0, v, 4));
        range("clash: hours", ARGUMENT, some, 1, 4, (x, v) -> x.clash(0, 0, 0, 50, v));
        range("clash: hours from 999", ARGUMENT, some, 1, 4, (x, v) -> x.clash(0, 0, 0, 999, v));
    }

    private static void at() {
        Check.Setup some = RangeTest::some;
        range("at: what", ARGUMENT, some, 0, 3, (x, v) -> x.at(v, 0, 20));
        int[] most = {3, 3, 5, 3};
        for (int kind = 0; kind < 4; kind++) {
            int what = kind;
            range("at: who of kind " + what, INDEX, some, 0, most[what], (x, v) -> x.at(what, v, 20));
            range("at: hour of kind " + what, INDEX, some, 0, 1003, (x, v) -> x.at(what, 0, v));
        }
    }

    private static void tellings() {
        Check.Setup some = RangeTest::some;
        for (int told = 0; told < 8; told++) {
            int what = told;
            range("about: matter of " + what, INDEX, some, 0, 2, (x, v) -> x.about(v, what));
            range("hearing: hearing of " + what, INDEX, some, 0, 2, (x, v) -> x.hearing(v, what));
        }
        range("about: what", ARGUMENT, some, 0, 7, (x, v) -> x.about(2, v));
        range("hearing: what", ARGUMENT, some, 0, 7, (x, v) -> x.hearing(2, v));
        range("paidBy: interpreter", INDEX, some, 0, 3, (x, v) -> x.paidBy(v, 20));
        for (int i = 0; i < 4; i++) {
            int interpreter = i;
            range("paidBy: hour of " + i, INDEX, some, 0, 1003, (x, v) -> x.paidBy(interpreter, v));
        }
    }
}
