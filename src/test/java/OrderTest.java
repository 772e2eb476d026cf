import java.util.ArrayList;
import java.util.List;

/**
 * If several exceptions apply, the one that is named first is thrown, and nothing changes: each call
 * with each fault of each kind, alone and with each fault of the kinds that are named behind it.
 */
final class OrderTest {
    private static final Class<IndexOutOfBoundsException> INDEX = IndexOutOfBoundsException.class;
    private static final Class<IllegalArgumentException> ARGUMENT = IllegalArgumentException.class;
    private static final Class<IllegalStateException> STATE = IllegalStateException.class;
    private static final Check CHECK = new Check("OrderTest");
    private static final int NO = Hearingpay.NONE;

    private interface Call { Object on(Hearingpay x, int[] a); }

    /** Gives the parameter of that place a value that the call refuses. */
    private record Fault(int place, int value) { }

    /** A call with parameters that are fine, and what can be wrong about it. */
    private static final class Faulty {
        final String name;
        final int[] fine;
        final Call call;
        final List<Fault> index = new ArrayList<>();
        final List<Fault> argument = new ArrayList<>();
        final List<Fault> state = new ArrayList<>();
        final List<Check.Setup> states = new ArrayList<>();

        Faulty(String name, Call call, int... fine) {
            this.name = name;
            this.call = call;
            this.fine = fine;
        }

        Faulty index(int place, int... values) {
            return put(index, place, values);
        }

        Faulty argument(int place, int... values) {
            return put(argument, place, values);
        }

        Faulty state(int place, int... values) {
            return put(state, place, values);
        }

        Faulty states(Check.Setup... setups) {
            states.addAll(List.of(setups));
            return this;
        }

        private Faulty put(List<Fault> faults, int place, int... values) {
            for (int value : values) {
                faults.add(new Fault(place, value));
            }
            return this;
        }

        void refuses(Class<? extends RuntimeException> due, Check.Setup setup, Fault... faults) {
            int[] a = fine.clone();
            for (Fault fault : faults) {
                a[fault.place()] = fault.value();
            }
            CHECK.refuses(name + java.util.Arrays.toString(a), due, setup, x -> call.on(x, a));
        }
    }

    public static void main(String[] args) {
        people();
        matters();
        plan();
        move();
        dropAndNotice();
        pass();
        tellings();
        CHECK.end();
    }

    /** Matter 0 needs language 0, which the interpreters 0 and 1 know, matter 1 none; the hour is 3. */
    private static Hearingpay some() {
        Hearingpay x = new Hearingpay();
        x.interpreter(0, 1, 10);
        x.interpreter(1, 1, 20);
        x.interpreter(2, 14, 30);
        x.pass(3);
        x.file(0, 0, 1, 0);
        x.file(1, 2, 3, NO);
        x.plan(0, 0, 0, 10, 2);
        x.plan(1, 1, NO, 15, 2);
        return x;
    }

    private static Hearingpay begun() {
        Hearingpay x = some();
        x.pass(7);
        return x;
    }

    private static Hearingpay dropped() {
        Hearingpay x = some();
        x.drop(0);
        return x;
    }

    private static Hearingpay failed() {
        Hearingpay x = some();
        x.pass(9);
        return x;
    }

    private static Hearingpay heard() {
        Hearingpay x = some();
        x.notice(0, 0);
        x.notice(0, 1);
        x.pass(9);
        return x;
    }

    private static Hearingpay decided() {
        Hearingpay x = heard();
        x.decide(0);
        return x;
    }

    private static Hearingpay heldUp() {
        Hearingpay x = decided();
        x.pay(0, 200);
        x.appeal(0);
        return x;
    }

    private static Hearingpay closed() {
        Hearingpay x = decided();
        x.close(0);
        return x;
    }

    private static Hearingpay lapsed() {
        Hearingpay x = some();
        x.plan(0, 0, 0, 300, 1);
        x.pass(50);
        x.pass(50);
        return x;
    }

    private static Hearingpay manyMatters() {
        Hearingpay x = some();
        for (int m = 2; m < 12; m++) {
            x.file(2, 4, 5, 1);
        }
        return x;
    }

    private static Hearingpay manyHearings() {
        Hearingpay x = some();
        for (int h = 2; h < 24; h++) {
            x.plan(0, 3, 0, 16 + 2 * h, 1);
        }
        return x;
    }

    private static Hearingpay lastHour() {
        Hearingpay x = some();
        for (int i = 0; i < 19; i++) {
            x.pass(50);
        }
        x.pass(47);
        return x;
    }

    private static void indexArgumentState(Faulty faulty) {
        for (Fault index : faulty.index) {
            faulty.refuses(INDEX, OrderTest::some, index);
            withLater(faulty, INDEX, OrderTest::some, faulty.argument, index);
            withLater(faulty, INDEX, OrderTest::some, faulty.state, index);
            for (Check.Setup state : faulty.states) {
                faulty.refuses(INDEX, state, index);
                withLater(faulty, INDEX, state, faulty.argument, index);
                withLater(faulty, INDEX, state, faulty.state, index);
            }
        }
        for (Fault argument : faulty.argument) {
            faulty.refuses(ARGUMENT, OrderTest::some, argument);
            withLater(faulty, ARGUMENT, OrderTest::some, faulty.state, argument);
            for (Check.Setup state : faulty.states) {
                faulty.refuses(ARGUMENT, state, argument);
                withLater(faulty, ARGUMENT, state, faulty.state, argument);
            }
        }
        for (Fault state : faulty.state) {
            faulty.refuses(STATE, OrderTest::some, state);
        }
        for (Check.Setup state : faulty.states) {
            faulty.refuses(STATE, state);
            withLater(faulty, STATE, state, faulty.state);
        }
    }

    private static void withLater(Faulty faulty, Class<? extends RuntimeException> due, Check.Setup setup,
            List<Fault> later, Fault... first) {
        for (Fault fault : later) {
            if (first.length == 0) {
                faulty.refuses(due, setup, fault);
            } else if (fault.place() != first[0].place()) {
                faulty.refuses(due, setup, fault, first[0]);
            }
        }
    }

    private static void people() {
        indexArgumentState(new Faulty("interpreter", (x, a) -> x.interpreter(a[0], a[1], a[2]), 1, 2, 5)
            .index(0, -1, 4).argument(1, -1, 16).argument(2, 0, 100));
        indexArgumentState(new Faulty("waive", (x, a) -> x.waive(a[0], true), 1).index(0, -1, 6));
    }

    private static void matters() {
        indexArgumentState(new Faulty("file", (x, a) -> x.file(a[0], a[1], a[2], a[3]), 0, 1, 2, 0)
            .index(0, -1, 4).index(1, -1, 6).index(2, -1, 6).index(3, -2, 4)
            .argument(1, 2).argument(2, 1).states(OrderTest::manyMatters));
        CHECK.refuses("file of a party twice that is none", INDEX, OrderTest::some, x -> x.file(0, 6, 6, 0));
        CHECK.refuses("file of a party twice that is none", INDEX, OrderTest::manyMatters, x -> x.file(0, -1, -1, 0));
        indexArgumentState(new Faulty("pay", (x, a) -> x.pay(a[0], a[1]), 1, 5)
            .index(0, -1, 2).argument(1, 0, -1, 10000));
        indexArgumentState(new Faulty("decide", (x, a) -> x.decide(a[0]), 0).index(0, -1, 2)
            .states(OrderTest::some, OrderTest::decided, OrderTest::heldUp, OrderTest::closed, OrderTest::lapsed));
        indexArgumentState(new Faulty("appeal", (x, a) -> x.appeal(a[0]), 0).index(0, -1, 2)
            .states(OrderTest::some, OrderTest::heard, OrderTest::decided, OrderTest::heldUp, OrderTest::closed,
                OrderTest::lapsed));
        indexArgumentState(new Faulty("settle", (x, a) -> x.settle(a[0], true), 0).index(0, -1, 2)
            .states(OrderTest::some, OrderTest::heard, OrderTest::decided, OrderTest::closed, OrderTest::lapsed));
        indexArgumentState(new Faulty("close", (x, a) -> x.close(a[0]), 0).index(0, -1, 2)
            .states(OrderTest::some, OrderTest::heard, OrderTest::heldUp, OrderTest::closed, OrderTest::lapsed));
    }

    private static void plan() {
        indexArgumentState(new Faulty("plan", (x, a) -> x.plan(a[0], a[1], a[2], a[3], a[4]), 0, 2, 1, 200, 1)
            .index(0, -1, 2).index(1, -1, 4).index(2, -2, 4)
            .argument(3, -1, 0, 3, 1000).argument(4, 0, 5)
            .state(2, NO, 2, 3)
            .states(OrderTest::manyHearings, OrderTest::lapsed, OrderTest::decided, OrderTest::heldUp,
                OrderTest::closed));
        for (int hour : new int[] {10, 11}) {
            CHECK.refuses("plan of no room in a clash", INDEX, OrderTest::some, x -> x.plan(0, 4, 0, hour, 1));
            CHECK.refuses("plan for 5 hours in a clash", ARGUMENT, OrderTest::some, x -> x.plan(0, 0, 0, hour, 5));
            CHECK.refuses("plan in a clash", STATE, OrderTest::some, x -> x.plan(0, 0, 0, hour, 1));
            CHECK.refuses("a 25th in a clash", STATE, OrderTest::manyHearings, x -> x.plan(0, 0, 0, hour, 1));
        }
    }

    private static void move() {
        indexArgumentState(new Faulty("move", (x, a) -> x.move(a[0], a[1], a[2], a[3]), 0, 2, 1, 200)
            .index(0, -1, 24).index(1, -1, 4).index(2, -2, 4)
            .argument(3, -1, 0, 3, 1000)
            .state(2, NO, 2, 3)
            .states(OrderTest::begun, OrderTest::dropped, OrderTest::failed, OrderTest::heard, OrderTest::decided));
        for (int hour : new int[] {14, 15, 16}) {
            CHECK.refuses("move to no room in a clash", INDEX, OrderTest::some, x -> x.move(0, 4, 0, hour));
            CHECK.refuses("move in a clash", STATE, OrderTest::some, x -> x.move(0, 1, 0, hour));
        }
        CHECK.refuses("move of one that is not there to 1000", INDEX, OrderTest::some, x -> x.move(2, 0, 0, 1000));
    }

    private static void dropAndNotice() {
        indexArgumentState(new Faulty("drop", (x, a) -> x.drop(a[0]), 0).index(0, -1, 3, 24)
            .states(OrderTest::begun, OrderTest::dropped, OrderTest::failed, OrderTest::heard, OrderTest::decided));
        indexArgumentState(new Faulty("notice", (x, a) -> x.notice(a[0], a[1]), 0, 1)
            .index(0, -1, 3, 24).index(1, -1, 6).argument(1, 2, 3, 4, 5)
            .states(OrderTest::dropped, OrderTest::failed, OrderTest::heard, OrderTest::decided));
    }

    private static void pass() {
        indexArgumentState(new Faulty("pass", (x, a) -> x.pass(a[0]), 1).argument(0, -1, 0, 51, Integer.MAX_VALUE)
            .states(OrderTest::lastHour));
        CHECK.refuses("pass(50) of 1000", STATE, OrderTest::lastHour, x -> x.pass(50));
    }

    private static void tellings() {
        indexArgumentState(new Faulty("clash", (x, a) -> x.clash(a[0], a[1], a[2], a[3], a[4]), 0, 2, 1, 200, 1)
            .index(0, -1, 2).index(1, -1, 4).index(2, -2, 4).argument(3, -1, 1000).argument(4, 0, 5));
        indexArgumentState(new Faulty("about", (x, a) -> x.about(a[0], a[1]), 0, 0)
            .index(0, -1, 2).argument(1, -1, 8));
        indexArgumentState(new Faulty("hearing", (x, a) -> x.hearing(a[0], a[1]), 0, 0)
            .index(0, -1, 2).argument(1, -1, 8));
        indexArgumentState(new Faulty("paidBy", (x, a) -> x.paidBy(a[0], a[1]), 0, 0)
            .index(0, -1, 4).index(1, -1, 1004));
        Faulty at = new Faulty("at", (x, a) -> x.at(a[0], a[1], a[2]), 0, 0, 0);
        for (int what : new int[] {-1, 4}) {
            at.refuses(ARGUMENT, OrderTest::some, new Fault(0, what));
            for (Fault later : List.of(new Fault(1, -1), new Fault(1, 6), new Fault(2, -1), new Fault(2, 1004))) {
                at.refuses(ARGUMENT, OrderTest::some, new Fault(0, what), later);
                at.refuses(INDEX, OrderTest::some, later);
            }
        }
    }
}
