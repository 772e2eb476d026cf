import java.util.Map;
import java.util.Random;
import java.util.TreeMap;

/** Many runs of 512 calls, the same each time; each answer beside the model's. */
final class ModelTest {
    private static final int RUNS = 5000;
    private static final int CALLS = 512;
    private static final int MOST_PRINTED = 5;
    /** What the runs must have come to, some hundred times at the least. */
    private static final String[] REACHED = {"FAILED", "HELD", "LAPSED", "a LAPSED matter's hearing moved",
        "a half", "a half rounded down", "appeal", "at", "begun when decided", "clash 1", "clash 2", "clash 3",
        "clash 4", "closed", "dismissed", "given back", "granted", "own paid time", "paidBy", "stays paid",
        "to come when decided"};
    private static final int[] ODD = {-2, -1, 4, 5, 6, 8, 12, 16, 24, 51, 100, 999, 1000, 1003, 1004, 10000,
        Integer.MAX_VALUE, Integer.MIN_VALUE};

    private final Random random;
    private final int pace;
    private final Beside beside = new Beside();
    private final Model model = beside.model;

    private ModelTest(int run) {
        random = new Random(run);
        pace = 1 + run % 4;
    }

    public static void main(String[] args) {
        int wrong = 0;
        long answers = 0;
        Map<String, Integer> seen = new TreeMap<>();
        for (int run = 0; run < RUNS; run++) {
            ModelTest test = new ModelTest(run);
            boolean isRight = test.run();
            if (!isRight && ++wrong <= MOST_PRINTED) {
                System.out.println("run " + run + ": " + test.beside.calls);
            }
            answers += test.beside.calls.size();
            test.model.seen.forEach((what, count) -> seen.merge(what, count, Integer::sum));
        }
        for (String what : REACHED) {
            if (seen.getOrDefault(what, 0) < 100) {
                System.out.println("the runs hardly come to: " + what + " (" + seen.get(what) + ")");
                wrong++;
            }
        }
        System.out.println("ModelTest: " + answers + " answers, " + wrong + " runs are not as due");
        if (args.length > 0) {
            System.out.println(seen);
        }
        if (wrong != 0) {
            System.exit(1);
        }
    }

    private boolean run() {
        for (int i = 0; i < 4; i++) {
            if (!same("interpreter", i, 15 >> random.nextInt(2), 1 + random.nextInt(99))) {
                return false;
            }
        }
        for (int n = 4; n < CALLS; n++) {
            if (!next()) {
                return false;
            }
        }
        return true;
    }

    private int odd(int usual) {
        return random.nextInt(60) == 0 ? ODD[random.nextInt(ODD.length)] : usual;
    }

    private int below(int count) {
        return odd(random.nextInt(Math.max(count, 1)));
    }

    private int matter() {
        return below(Math.min(model.matterCount() + (random.nextInt(20) == 0 ? 1 : 0), 13));
    }

    private int hearing() {
        int count = model.hearingCount();
        int back = random.nextInt(3) == 0 ? count : Math.min(count, 4);
        return odd(count - 1 - random.nextInt(Math.max(back, 1)));
    }

    private int interpreterOf(int matter) {
        boolean isSilent = matter >= 0 && matter < model.matterCount() && model.about(matter, 4) == -1;
        return odd(isSilent == (random.nextInt(12) != 0) ? -1 : random.nextInt(random.nextBoolean() ? 2 : 4));
    }

    private int from() {
        int ahead = random.nextInt(5) == 0 ? random.nextInt(40) : 1 + random.nextInt(11);
        return odd(Math.min(model.hour() + ahead, random.nextInt(30) == 0 ? 2000 : 999));
    }

    private boolean next() {
        int n = random.nextInt(100);
        if (n < 4) {
            return same("interpreter", below(4), odd(15 & ~(1 << random.nextInt(4))), odd(1 + random.nextInt(99)));
        } else if (n < 6) {
            return same("waive", below(6), random.nextInt(2));
        } else if (n < 11) {
            return same("file", below(4), below(6), below(6), odd(random.nextInt(5) == 0 ? -1 : random.nextInt(4)));
        } else if (n < 14) {
            return same("pay", matter(), odd(1 + random.nextInt(300)));
        } else if (n < 17) {
            return ofState(1, "decide");
        } else if (n < 20) {
            return ofState(2, "appeal");
        } else if (n < 23) {
            return ofState(3, "settle");
        } else if (n < 24) {
            return ofState(2, "close");
        } else if (n < 34) {
            int matter = matter();
            return same("plan", matter, below(4), interpreterOf(matter), from(), odd(1 + random.nextInt(4)));
        } else if (n < 47) {
            return moveOne();
        } else if (n < 50) {
            return same("drop", hearing());
        } else if (n < 66) {
            return noticeOne();
        } else if (n < 66 + pace * 2) {
            return same("pass", odd(1 + random.nextInt(random.nextInt(30) == 0 ? 50 : pace)));
        }
        return ask();
    }

    private boolean ofState(int state, String call) {
        int matter = matter();
        for (int m = 0; m < model.matterCount(); m++) {
            if (random.nextInt(4) != 0 && model.about(m, 0) == state) {
                matter = m;
            }
        }
        return call.equals("settle") ? same(call, matter, random.nextInt(2)) : same(call, matter);
    }

    private boolean moveOne() {
        int hearing = hearing();
        boolean isThere = hearing >= 0 && hearing < model.hearingCount();
        int matter = isThere ? model.hearing(hearing, 1) : 0;
        int usual = isThere && random.nextBoolean() ? model.hearing(hearing, 3) : interpreterOf(matter);
        int near = isThere && random.nextInt(3) == 0 ? model.hearing(hearing, 4) + random.nextInt(7) - 3 : from();
        return same("move", hearing, below(4), usual, near);
    }

    private boolean noticeOne() {
        int hearing = hearing();
        boolean isThere = hearing >= 0 && hearing < model.hearingCount() && random.nextInt(20) != 0;
        int party = isThere ? model.about(model.hearing(hearing, 1), 2 + random.nextInt(2)) : below(6);
        return same("notice", hearing, odd(party));
    }

    private boolean ask() {
        int hour = odd(model.hour() + random.nextInt(14) - 2);
        switch (random.nextInt(8)) {
            case 0: {
                int matter = matter();
                return same("clash", matter, below(4), interpreterOf(matter), hour, odd(1 + random.nextInt(4)));
            }
            case 1:
                return same("at", odd(random.nextInt(4)), below(6), hour);
            case 2:
                return same("about", matter(), odd(random.nextInt(8)));
            case 3:
                return same("about", matter(), 5);
            case 4:
                return same("hearing", hearing(), odd(random.nextInt(8)));
            case 5:
                return same("paidBy", odd(random.nextInt(random.nextBoolean() ? 2 : 4)), hour);
            case 6:
                return same("about", matter(), 7);
            default:
                return same(random.nextInt(4) == 0 ? "hour" : "balances");
        }
    }

    private boolean same(String call, int... a) {
        return beside.same(call, a);
    }
}
