import java.util.ArrayList;
import java.util.List;
import java.util.TreeSet;

/**
 * Each call that changes something, with each combination of parameters at their edges, in calendars of each
 * kind: the answer and all that is told behind it are the model's. A refused call thus changes nothing.
 */
final class GridTest {
    private static final int NO = Hearingpay.NONE;
    private static final int MOST_PRINTED = 5;

    private interface Calendar { void set(Beside b); }

    private final Calendar calendar;
    private final String name;
    private long tried = 0;
    private int wrong = 0;

    private GridTest(String name, Calendar calendar) {
        this.name = name;
        this.calendar = calendar;
    }

    public static void main(String[] args) {
        List<GridTest> grids = new ArrayList<>();
        grids.add(new GridTest("empty", b -> { }));
        grids.add(new GridTest("some", GridTest::some));
        grids.add(new GridTest("paid time", GridTest::paidTime));
        grids.add(new GridTest("begun", GridTest::begun));
        grids.add(new GridTest("states", GridTest::states));
        grids.add(new GridTest("lapsed", GridTest::lapsed));
        grids.add(new GridTest("full", GridTest::full));
        grids.add(new GridTest("998", b -> late(b, 998)));
        grids.add(new GridTest("1000", b -> late(b, 1000)));
        long tried = 0;
        int wrong = 0;
        for (GridTest grid : grids) {
            grid.tryAll();
            tried += grid.tried;
            wrong += grid.wrong;
        }
        System.out.println("GridTest: " + tried + " calls are tried, " + wrong + " are not as due");
        if (wrong != 0) {
            System.exit(1);
        }
    }

    // ---- the calendars

    /** The matters 0 and 1 need language 0, matter 2 none; each has a hearing to come. */
    private static void some(Beside b) {
        b.same("interpreter", 0, 1, 11);
        b.same("interpreter", 1, 3, 21);
        b.same("interpreter", 3, 8, 99);
        b.same("waive", 3, 1);
        b.same("file", 0, 0, 1, 0);
        b.same("file", 1, 2, 3, 0);
        b.same("file", 2, 4, 1, NO);
        b.same("pass", 1);
        b.same("plan", 0, 0, 0, 9, 2);
        b.same("plan", 1, 1, 1, 8, 4);
        b.same("plan", 2, 2, NO, 13, 1);
        b.same("notice", 0, 0);
        b.same("notice", 0, 1);
        b.same("notice", 1, 2);
    }

    private static void paidTime(Beside b) {
        some(b);
        b.same("pass", 1);
        b.same("drop", 0);
        b.same("plan", 0, 3, 0, 4, 3);
        b.same("move", 1, 0, 1, 10);
        b.same("plan", 1, 2, 0, 7, 3);
        b.same("drop", 4);
    }

    private static void begun(Beside b) {
        some(b);
        b.same("pass", 8);
    }

    /** Matter 0 is HEARD, 1 DECIDED, 2 HELD_UP, 3 CLOSED, and 4 FILED; some hearings are to come. */
    private static void states(Beside b) {
        b.same("interpreter", 0, 15, 10);
        for (int m = 0; m < 4; m++) {
            b.same("file", m, 0, 1 + m, m == 0 ? 0 : NO);
            b.same("pay", m, 50 + 80 * (m / 2));
            b.same("plan", m, m, m == 0 ? 0 : NO, 6 + m, 1);
            b.same("notice", m, 0);
            b.same("notice", m, 1 + m);
        }
        b.same("file", 0, 5, 4, NO);
        b.same("pass", 10);
        b.same("plan", 0, 0, 0, 12, 2);
        b.same("plan", 0, 1, 0, 19, 2);
        b.same("plan", 1, 1, NO, 30, 4);
        b.same("plan", 4, 1, NO, 14, 2);
        b.same("decide", 1);
        b.same("decide", 2);
        b.same("decide", 3);
        b.same("appeal", 2);
        b.same("close", 3);
        b.same("pass", 2);
    }

    private static void lapsed(Beside b) {
        some(b);
        b.same("plan", 0, 3, 0, 106, 2);
        b.same("pass", 49);
        b.same("pass", 50);
        b.same("file", 3, 5, 4, 0);
    }

    private static void full(Beside b) {
        b.same("interpreter", 0, 15, 10);
        for (int m = 0; m < 12; m++) {
            b.same("file", m % 4, m % 6, (m + 1) % 6, m % 2 == 0 ? 0 : NO);
            b.same("plan", m, m % 4, m % 2 == 0 ? 0 : NO, 4 + m, 1);
            b.same("plan", m, m % 4, m % 2 == 0 ? 0 : NO, 21 + m, 1);
        }
        b.same("pass", 5);
    }

    private static void late(Beside b, int hour) {
        while (b.model.hour() < 950) {
            b.same("pass", 50);
        }
        b.same("interpreter", 0, 1, 11);
        b.same("pass", 42);
        b.same("file", 0, 0, 1, 0);
        b.same("file", 1, 2, 3, 0);
        b.same("plan", 0, 0, 0, 999, 4);
        b.same("drop", 0);
        b.same("plan", 1, 0, 0, 999, 2);
        b.same("notice", 1, 2);
        b.same("pass", hour - 992);
    }

    // ---- the calls

    private void tryAll() {
        Beside b = new Beside();
        calendar.set(b);
        noneRefused(b.calls);
        int now = b.model.hour();
        int[] matters = numbers(b.model.matterCount());
        int[] hearings = numbers(b.model.hearingCount());
        int[] few = {-1, 0, 3, 4};
        int[] rooms = {0, 1, 3, 4};
        int[] interpreters = {-2, NO, 0, 1, 3, 4};
        int[] froms = hours(now);
        int[] hours = {0, 1, 4, 5};
        int[] truths = {0, 1};
        int[] parties = {-1, 0, 1, 2, 5, 6};
        each("interpreter", few, new int[] {-1, 0, 1, 15, 16}, new int[] {0, 1, 99, 100});
        each("waive", parties, truths);
        each("file", few, parties, new int[] {-1, 0, 5, 6}, new int[] {-2, NO, 3, 4});
        each("pay", matters, new int[] {0, 1, 9999, 10000});
        each("decide", matters);
        each("appeal", matters);
        each("settle", matters, truths);
        each("close", matters);
        each("plan", matters, rooms, interpreters, froms, hours);
        each("move", hearings, rooms, interpreters, froms);
        each("drop", hearings);
        each("notice", hearings, parties);
        each("pass", new int[] {-1, 0, 1, 2, 3, 7, 8, 49, 50, 51});
        each("clash", matters, few, interpreters, new int[] {-1, 0, now, now + 1, 999, 1000}, hours);
        each("at", few, parties, new int[] {-1, 0, now, now + 7, 1003, 1004});
        each("about", matters, new int[] {-1, 0, 7, 8});
        each("hearing", hearings, new int[] {-1, 0, 7, 8});
        each("paidBy", few, new int[] {-1, 0, now, now + 1, 1003, 1004});
        each("balances");
        each("hour");
    }

    /** A calendar that is not what it is meant to be would try less than it seems. */
    private void noneRefused(List<String> calls) {
        for (String call : calls) {
            if (call.contains("throws")) {
                System.out.println("calendar " + name + " is not set up: " + call);
                wrong++;
            }
        }
    }

    /** The first and the last ones that there are, and those beside them. */
    private static int[] numbers(int count) {
        TreeSet<Integer> numbers = new TreeSet<>(List.of(-1, 0, 1, count / 2, count - 1, count));
        return numbers.stream().mapToInt(Integer::intValue).toArray();
    }

    private static int[] hours(int now) {
        TreeSet<Integer> hours = new TreeSet<>(List.of(now - 1, now, now + 1, now + 4, now + 7, now + 8, 998, 999, 1000));
        return hours.stream().mapToInt(Integer::intValue).toArray();
    }

    /** All combinations, each in a calendar of its own. */
    private void each(String call, int[]... values) {
        int count = 1;
        for (int[] of : values) {
            count *= of.length;
        }
        for (int n = 0; n < count; n++) {
            int[] a = new int[values.length];
            int rest = n;
            for (int k = 0; k < a.length; k++) {
                a[k] = values[k][rest % values[k].length];
                rest /= values[k].length;
            }
            one(call, a);
        }
    }

    private void one(String call, int... a) {
        Beside b = new Beside();
        calendar.set(b);
        int from = b.calls.size();
        tried++;
        boolean isSame = b.same(call, a);
        isSame &= b.sameInAll();
        if (!isSame && ++wrong <= MOST_PRINTED) {
            System.out.println("calendar " + name + ": " + b.calls.get(from));
            b.calls.stream().filter(told -> told.contains("due is")).limit(MOST_PRINTED).forEach(System.out::println);
        }
    }
}
