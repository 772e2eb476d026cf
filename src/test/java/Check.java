/** Counts the answers that are as due, and prints those that are not. */
final class Check {
    interface Setup { Hearingpay make(); }
    interface Call { Object on(Hearingpay x); }
    interface CallWith { Object on(Hearingpay x, int value); }

    private final String name;
    private int passed = 0;
    private int failed = 0;

    Check(String name) {
        this.name = name;
    }

    void is(String what, Object got, Object due) {
        if (got.equals(due)) {
            passed++;
        } else {
            failed++;
            System.out.println(name + ": " + what + " answered " + got + ", due is " + due);
        }
    }

    /** The call throws just that exception (no subclass: those are the machine's) and changes nothing. */
    void refuses(String what, Class<? extends RuntimeException> due, Setup setup, Call call) {
        Hearingpay x = setup.make();
        is(what, answer(x, call), "throws " + due.getSimpleName());
        is(what + " changes nothing", snapshot(x), snapshot(setup.make()));
    }

    static String answer(Hearingpay x, Call call) {
        try {
            return String.valueOf(call.on(x));
        } catch (RuntimeException e) {
            return "throws " + e.getClass().getSimpleName();
        }
    }

    void refusesEach(String what, Class<? extends RuntimeException> due, Setup setup, CallWith call, int... values) {
        for (int value : values) {
            refuses(what + " with " + value, due, setup, x -> call.on(x, value));
        }
    }

    void acceptsEach(String what, Setup setup, CallWith call, int... values) {
        for (int value : values) {
            String answer = answer(setup.make(), x -> call.on(x, value));
            is(what + " with " + value + " answered " + answer, answer.startsWith("throws"), false);
        }
    }

    /** All that can be asked within the 512 calls; the prices and waivers last, for asking changes them. */
    private static String snapshot(Hearingpay x) {
        StringBuilder s = new StringBuilder();
        int now = x.hour();
        s.append("hour ").append(now).append(" balances ").append(x.balances());
        tellAll(s, " matter ", 12, (number, what) -> x.about(number, what));
        tellAll(s, " hearing ", 24, (number, what) -> x.hearing(number, what));
        s.append(" paid");
        for (int i = 0; i < 4; i++) {
            for (int hour = Math.max(0, now - 1); hour <= Math.min(1003, now + 12); hour++) {
                s.append(' ').append(x.paidBy(i, hour));
            }
        }
        for (int party = 0; party < 6; party++) {
            s.append(' ').append(x.waive(party, false));
        }
        for (int i = 0; i < 4; i++) {
            s.append(' ').append(x.interpreter(i, 0, 1));
        }
        return s.toString();
    }

    private interface Telling { int of(int number, int what); }

    private static void tellAll(StringBuilder s, String title, int most, Telling telling) {
        for (int number = 0; number < most; number++) {
            s.append(title).append(number);
            for (int what = 0; what < 8; what++) {
                try {
                    s.append(' ').append(telling.of(number, what));
                } catch (IndexOutOfBoundsException none) {
                    return;
                }
            }
        }
    }

    void end() {
        System.out.println(name + ": " + passed + " answers are as due, " + failed + " are not");
        if (failed != 0) {
            System.exit(1);
        }
    }
}
