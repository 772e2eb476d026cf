/** The section "Terms" but for "Money", each sentence at its edges. */
final class TermsTest {
    private static final Class<IllegalStateException> STATE = IllegalStateException.class;
    private static final Check CHECK = new Check("TermsTest");
    private static final int NO = Hearingpay.NONE;

    public static void main(String[] args) {
        languagesAtFirst();
        languagesTold();
        ends();
        endsPutOff();
        endsThatAreOver();
        hearingsAheadOfTerms();
        hearingsOver();
        held();
        failed();
        noticesAhead();
        noticesGone();
        clashHours();
        clashParties();
        clashReasons();
        clashOfTwo();
        clashRefuses();
        CHECK.end();
    }

    private static void passTo(Hearingpay x, int hour) {
        while (x.hour() < hour) {
            x.pass(Math.min(50, hour - x.hour()));
        }
    }

    // ---- languages

    private static void languagesAtFirst() {
        for (int language = 0; language < 4; language++) {
            int needed = language;
            Check.Setup setup = () -> {
                Hearingpay x = new Hearingpay();
                x.file(0, 0, 1, needed);
                x.file(0, 0, 1, NO);
                return x;
            };
            CHECK.refusesEach("none knows " + language + " at first", STATE, setup,
                (x, v) -> x.plan(0, 0, v, 5, 1), 0, 1, 2, 3, NO);
            CHECK.acceptsEach("none is needed", setup, (x, v) -> x.plan(1, 0, v, 5, 1), NO);
        }
    }

    private static void languagesTold() {
        for (int known = 0; known < 16; known++) {
            for (int language = 0; language < 4; language++) {
                Hearingpay x = new Hearingpay();
                x.interpreter(2, 15 - known, 5);
                x.interpreter(2, known, 5);
                x.file(0, 0, 1, language);
                boolean isKnown = (known >> language) % 2 == 1;
                CHECK.is(known + " holds " + language, Check.answer(x, y -> y.plan(0, 0, 2, 5, 1)),
                    isKnown ? "0" : "throws IllegalStateException");
                CHECK.is("the others know nothing", Check.answer(x, y -> y.plan(0, 0, 1, 9, 1)),
                    "throws IllegalStateException");
            }
        }
        Hearingpay x = new Hearingpay();
        x.interpreter(0, 1, 5);
        x.interpreter(1, 1, 5);
        x.file(0, 0, 1, 0);
        x.plan(0, 0, 0, 5, 1);
        x.interpreter(0, 0, 5);
        CHECK.is("moved with one who does not know it any more", Check.answer(x, y -> y.move(0, 0, 0, 9)),
            "throws IllegalStateException");
        CHECK.is("moved to one who does", x.move(0, 0, 1, 9), -60);
        x.notice(0, 0);
        x.notice(0, 1);
        x.interpreter(1, 0, 5);
        CHECK.is("what is planned is held all the same", x.pass(10), 1);
    }

    // ---- terms

    private static void ends() {
        for (int filed : new int[] {0, 1, 7, 50, 899, 900}) {
            Hearingpay x = new Hearingpay();
            passTo(x, filed);
            x.file(0, 0, 1, NO);
            CHECK.is("the end", x.about(0, 6), filed + 100);
            passTo(x, filed + 99);
            CHECK.is("an hour ahead of it", x.about(0, 0), Hearingpay.FILED);
            x.pass(1);
            CHECK.is("at it", x.about(0, 0), Hearingpay.LAPSED);
            CHECK.is("the end stays", x.about(0, 6), filed + 100);
        }
        Hearingpay x = new Hearingpay();
        x.file(0, 0, 1, NO);
        x.pass(1);
        x.file(0, 0, 1, NO);
        passTo(x, 100);
        CHECK.is("each has its own: the first", x.about(0, 0), Hearingpay.LAPSED);
        CHECK.is("each has its own: the second", x.about(1, 0), Hearingpay.FILED);
        x.pass(1);
        CHECK.is("each has its own: the second then", x.about(1, 0), Hearingpay.LAPSED);
    }

    /** Matter 0 was filed at 0, and HEARD and DECIDED at 5; its balance is 1000. */
    private static Hearingpay decided() {
        Hearingpay x = new Hearingpay();
        x.file(0, 0, 1, NO);
        x.pay(0, 1050);
        x.plan(0, 0, NO, 4, 1);
        x.notice(0, 0);
        x.notice(0, 1);
        x.pass(5);
        x.decide(0);
        return x;
    }

    private static void endsPutOff() {
        for (int hours : new int[] {0, 1, 2, 49, 50, 95, 96, 200}) {
            Hearingpay x = decided();
            x.appeal(0);
            passTo(x, 5 + hours);
            CHECK.is("HELD_UP for " + hours, x.about(0, 0), Hearingpay.HELD_UP);
            CHECK.is("the end by now", x.about(0, 6), 100 + hours);
            CHECK.is("the end as told", x.settle(0, true), 100 + hours);
            passTo(x, 99 + hours);
            CHECK.is("an hour ahead of it", x.about(0, 0), Hearingpay.FILED);
            x.pass(1);
            CHECK.is("at it", x.about(0, 0), Hearingpay.LAPSED);
            CHECK.is("the end stays", x.about(0, 6), 100 + hours);
        }
        Hearingpay x = decided();
        for (int turn = 1; turn <= 5; turn++) {
            x.appeal(0);
            x.pass(turn);
            CHECK.is("dismissed", x.settle(0, false), 100 + turn * (turn + 1) / 2);
            x.pass(3);
            CHECK.is("DECIDED hours put nothing off", x.about(0, 6), 100 + turn * (turn + 1) / 2);
        }
    }

    private static void endsThatAreOver() {
        for (int hour : new int[] {99, 100, 101, 300}) {
            Hearingpay x = decided();
            passTo(x, hour);
            CHECK.is("DECIDED at " + hour, x.about(0, 0), Hearingpay.DECIDED);
            x.appeal(0);
            x.pass(2);
            CHECK.is("HELD_UP behind its end", x.settle(0, true), 102);
            CHECK.is("FILED for now", x.about(0, 0), Hearingpay.FILED);
            CHECK.is("a hearing can be planned", x.plan(0, 0, NO, hour + 3, 1), 1);
            x.pass(1);
            boolean isOver = hour + 3 >= 102;
            CHECK.is("LAPSED with the next hour at " + hour, x.about(0, 0), isOver ? Hearingpay.LAPSED : Hearingpay.FILED);
        }
        Hearingpay x = decided();
        x.close(0);
        passTo(x, 101);
        CHECK.is("a CLOSED one stays CLOSED", x.about(0, 0), Hearingpay.CLOSED);
        CHECK.is("its end stays", x.about(0, 6), 100);
    }

    private static void hearingsAheadOfTerms() {
        for (int from = 97; from <= 101; from++) {
            Hearingpay x = new Hearingpay();
            x.file(0, 0, 1, NO);
            x.plan(0, 0, NO, from, 1);
            x.notice(0, 0);
            x.notice(0, 1);
            x.pass(50);
            boolean isInTime = from <= 99;
            CHECK.is("in the call that makes it LAPSED, from " + from, x.pass(50) + x.pass(5), isInTime ? 1 : 0);
            CHECK.is("the hearing", x.hearing(0, 0), isInTime ? Hearingpay.HELD : Hearingpay.FAILED);
            CHECK.is("the matter", x.about(0, 0), Hearingpay.LAPSED);
        }
        Hearingpay one = new Hearingpay();
        one.file(0, 0, 1, NO);
        one.plan(0, 0, NO, 101, 1);
        one.notice(0, 0);
        one.notice(0, 1);
        one.pass(49);
        one.pass(1);
        one.pass(49);
        CHECK.is("LAPSED and FAILED within one call", one.pass(50), 0);
        CHECK.is("the hearing", one.hearing(0, 0), Hearingpay.FAILED);
    }

    // ---- hearings

    private static Hearingpay planned(int from, int hours) {
        Hearingpay x = new Hearingpay();
        x.file(0, 2, 4, NO);
        x.plan(0, 0, NO, from, hours);
        return x;
    }

    private static void hearingsOver() {
        for (int hours = 1; hours <= 4; hours++) {
            Hearingpay x = planned(5, hours);
            x.notice(0, 2);
            x.notice(0, 4);
            CHECK.is("none as now becomes " + (4 + hours), x.pass(4 + hours), 0);
            CHECK.is("PLANNED", x.hearing(0, 0), Hearingpay.PLANNED);
            CHECK.is("FILED", x.about(0, 0), Hearingpay.FILED);
            CHECK.is("one as now becomes " + (5 + hours), x.pass(1), 1);
            CHECK.is("HELD", x.hearing(0, 0), Hearingpay.HELD);
            CHECK.is("HEARD", x.about(0, 0), Hearingpay.HEARD);
            CHECK.is("once", x.pass(1), 0);
            CHECK.is("HELD still", x.hearing(0, 0), Hearingpay.HELD);
        }
    }

    private static void held() {
        Hearingpay x = new Hearingpay();
        x.file(0, 0, 1, NO);
        x.file(1, 2, 3, NO);
        x.plan(0, 0, NO, 5, 2);
        x.plan(1, 1, NO, 6, 1);
        for (int party = 0; party < 4; party++) {
            x.notice(party / 2, party);
        }
        CHECK.is("two in the same hour", x.pass(7), 2);
        Hearingpay y = new Hearingpay();
        y.file(0, 0, 1, NO);
        for (int h = 0; h < 3; h++) {
            y.plan(0, 0, NO, 5 + h, 1);
            y.notice(h, 1);
            y.notice(h, 0);
        }
        CHECK.is("three in three hours", y.pass(50), 3);
        CHECK.is("a HEARD matter stays HEARD", y.about(0, 0), Hearingpay.HEARD);
    }

    private static void failed() {
        int[][] told = {{}, {2}, {4}, {2, 2}, {4, 4}};
        for (int[] parties : told) {
            Hearingpay x = planned(5, 2);
            for (int party : parties) {
                x.notice(0, party);
            }
            CHECK.is("none is HELD", x.pass(50), 0);
            CHECK.is("FAILED", x.hearing(0, 0), Hearingpay.FAILED);
            CHECK.is("the matter stays FILED", x.about(0, 0), Hearingpay.FILED);
        }
        Hearingpay x = planned(5, 1);
        x.notice(0, 2);
        x.notice(0, 4);
        x.plan(0, 0, NO, 8, 1);
        x.notice(1, 2);
        CHECK.is("one of two", x.pass(9), 1);
        CHECK.is("FAILED", x.hearing(1, 0), Hearingpay.FAILED);
        CHECK.is("the matter stays HEARD", x.about(0, 0), Hearingpay.HEARD);
    }

    private static void noticesAhead() {
        for (int party : new int[] {2, 4}) {
            for (int ahead = -1; ahead <= 9; ahead++) {
                Hearingpay x = planned(9, 2);
                passTo(x, 9 - ahead);
                CHECK.is("notice " + ahead + " hours ahead", x.notice(0, party), ahead >= 4);
                CHECK.is("so many count", x.hearing(0, 6), ahead >= 4 ? 1 : 0);
            }
        }
        Hearingpay x = planned(9, 1);
        x.notice(0, 2);
        x.notice(0, 4);
        passTo(x, 6);
        CHECK.is("too late", x.notice(0, 2), false);
        CHECK.is("too late, the other", x.notice(0, 4), false);
        CHECK.is("the earlier ones stay", x.hearing(0, 6), 2);
        CHECK.is("and it is HELD", x.pass(4), 1);
        Hearingpay lapsed = planned(150, 1);
        passTo(lapsed, 146);
        CHECK.is("the matter is LAPSED", lapsed.about(0, 0), Hearingpay.LAPSED);
        CHECK.is("a notice is told all the same", lapsed.notice(0, 2), true);
        CHECK.is("and the other", lapsed.notice(0, 4), true);
        CHECK.is("but it is not HELD", lapsed.pass(5), 0);
        CHECK.is("it FAILED", lapsed.hearing(0, 0), Hearingpay.FAILED);
        CHECK.is("LAPSED still", lapsed.about(0, 0), Hearingpay.LAPSED);
    }

    private static void noticesGone() {
        Hearingpay x = planned(9, 1);
        x.notice(0, 2);
        x.notice(0, 4);
        x.move(0, 0, NO, 10);
        CHECK.is("gone", x.hearing(0, 6), 0);
        CHECK.is("told again", x.notice(0, 4), true);
        CHECK.is("one counts", x.hearing(0, 6), 1);
        CHECK.is("one is too few", x.pass(11), 0);
        Hearingpay y = planned(9, 1);
        y.notice(0, 2);
        y.notice(0, 4);
        y.move(0, 0, NO, 3);
        CHECK.is("too late for the new hour", y.notice(0, 2), false);
        y.move(0, 0, NO, 4);
        CHECK.is("in time for the next", y.notice(0, 2), true);
        CHECK.is("and the other", y.notice(0, 4), true);
        CHECK.is("HELD", y.pass(5), 1);
        Hearingpay two = planned(9, 1);
        two.plan(0, 0, NO, 20, 1);
        two.notice(0, 2);
        two.notice(1, 4);
        two.move(1, 0, NO, 21);
        CHECK.is("another hearing's stay", two.hearing(0, 6), 1);
        CHECK.is("the moved one's do not", two.hearing(1, 6), 0);
    }

    // ---- clashes

    /**
     * Hearing 0 is of judge 0 and the parties 0 and 1, from 10 to 13 in room 0 with interpreter 0. Matter
     * 1 + n shares its judge if n % 2 is 1, and a party if n / 2 is 1; the matters 5 to 8 share one party
     * each, in each place.
     */
    private static Hearingpay one() {
        Hearingpay x = new Hearingpay();
        x.interpreter(0, 1, 10);
        x.interpreter(1, 1, 10);
        x.file(0, 0, 1, 0);
        x.file(3, 4, 5, 0);
        x.file(0, 4, 5, 0);
        x.file(3, 5, 1, 0);
        x.file(0, 5, 1, 0);
        x.file(2, 0, 5, 0);
        x.file(2, 5, 0, 0);
        x.file(2, 1, 5, 0);
        x.file(2, 5, 1, 0);
        x.plan(0, 0, 0, 10, 3);
        return x;
    }

    private static void clashHours() {
        int[][] shared = {{1, 0, 1, 1}, {2, 1, 1, 2}, {3, 1, 1, 3}, {1, 1, 0, 4}};
        for (int[] s : shared) {
            Hearingpay x = one();
            for (int from = 5; from <= 14; from++) {
                for (int hours = 1; hours <= 4; hours++) {
                    boolean isIn = from + hours > 10 && from < 13;
                    CHECK.is("reason " + s[3] + " from " + from + " for " + hours,
                        x.clash(s[0], s[1], s[2], from, hours), isIn ? s[3] : 0);
                }
            }
        }
    }

    private static void clashParties() {
        Hearingpay x = one();
        for (int matter = 5; matter <= 8; matter++) {
            CHECK.is("a party of matter " + matter, x.clash(matter, 1, 1, 12, 1), 3);
        }
        CHECK.is("its own matter", x.clash(0, 1, 1, 12, 1), 2);
    }

    private static void clashReasons() {
        for (int n = 0; n < 16; n++) {
            boolean isRoom = (n & 4) != 0;
            boolean isInterpreter = (n & 8) != 0;
            int due = isRoom ? 1 : n % 2 == 1 ? 2 : (n & 2) != 0 ? 3 : isInterpreter ? 4 : 0;
            CHECK.is("the first reason of " + n,
                one().clash(1 + n % 4, isRoom ? 0 : 1, isInterpreter ? 0 : 1, 11, 1), due);
            CHECK.is("no reason behind it, of " + n,
                one().clash(1 + n % 4, isRoom ? 0 : 1, isInterpreter ? 0 : 1, 13, 1), 0);
        }
    }

    private static void clashOfTwo() {
        Hearingpay x = one();
        x.plan(1, 2, 1, 11, 4);
        CHECK.is("the second hearing's room, the first's interpreter", x.clash(5, 2, 0, 12, 1), 1);
        CHECK.is("the first hearing's party, the second's interpreter", x.clash(7, 1, 1, 12, 1), 3);
        CHECK.is("the second hearing's judge, the first's party", x.clash(3, 1, 0, 12, 1), 2);
        CHECK.is("the second hearing alone", x.clash(3, 1, 0, 13, 1), 2);
        CHECK.is("behind both", x.clash(3, 2, 1, 15, 1), 0);
        Hearingpay y = one();
        y.plan(1, 1, 1, 20, 2);
        y.move(0, 0, 0, 20);
        y.file(1, 2, 3, NO);
        CHECK.is("of two in its hours the first alone has a reason", y.clash(9, 0, NO, 20, 1), 1);
        CHECK.is("the second alone", y.clash(9, 1, NO, 20, 1), 1);
        CHECK.is("neither", y.clash(9, 2, NO, 20, 1), 0);
        CHECK.is("the first by its judge, the second by its parties", y.clash(2, 2, NO, 20, 1), 2);
        CHECK.is("the first alone, by its interpreter", y.clash(9, 2, 0, 20, 1), 4);
        CHECK.is("the second alone, by its interpreter", y.clash(9, 2, 1, 20, 1), 4);
    }

    private static void clashRefuses() {
        int[][] shared = {{1, 0, 1}, {2, 1, 1}, {3, 1, 1}, {1, 1, 0}};
        for (int[] s : shared) {
            Check.Setup two = () -> {
                Hearingpay x = one();
                x.plan(s[0], 3, 1, 20, 2);
                x.notice(1, 5);
                return x;
            };
            CHECK.refusesEach("plan that clashes", STATE, two, (x, v) -> x.plan(s[0], s[1], s[2], v, 1), 10, 11, 12);
            CHECK.acceptsEach("plan beside it", two, (x, v) -> x.plan(s[0], s[1], s[2], v, 1), 9, 13);
            CHECK.refusesEach("move that clashes", STATE, two, (x, v) -> x.move(1, s[1], s[2], v), 9, 10, 11, 12);
            CHECK.acceptsEach("move beside it", two, (x, v) -> x.move(1, s[1], s[2], v), 8, 13);
        }
        Hearingpay x = one();
        for (int from : new int[] {7, 8, 9, 10, 11, 12, 13}) {
            CHECK.is("itself does not count, at " + from, Check.answer(x, y -> y.move(0, 0, 0, from)).startsWith("throws"),
                false);
        }
        Check.Setup over = () -> {
            Hearingpay y = one();
            y.pass(13);
            return y;
        };
        CHECK.is("one that is over has no hours", over.make().clash(0, 0, 0, 10, 3), 0);
    }
}
