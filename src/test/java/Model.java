import java.util.ArrayList;
import java.util.List;
import java.util.Map;
import java.util.TreeMap;
import java.util.TreeSet;

/**
 * The document once more, written for plainness and not for speed: balances are sums of ledger rows,
 * paid time is a map of all hours, and a place in the calendar is a set of words like "room 1 at 7".
 */
final class Model {
    static final class Refusal extends RuntimeException {
        private static final long serialVersionUID = 1;
        final String kind;

        Refusal(String kind) {
            super(kind);
            this.kind = kind;
        }
    }

    private record Paid(int matter, int amount) { }

    private record Entry(int matter, int amount) { }

    private static final class Matter {
        int judge;
        int first;
        int second;
        int language;
        String state = "FILED";
        int filedAt;
        int heldUpHours = 0;
    }

    private static final class Hearing {
        int matter;
        int room;
        int interpreter;
        int from;
        int hours;
        String state = "PLANNED";
        final TreeSet<Integer> told = new TreeSet<>();
        final List<Integer> charges = new ArrayList<>();
    }

    private static final List<String> MATTER_STATES =
        List.of("FILED", "HEARD", "DECIDED", "HELD_UP", "CLOSED", "LAPSED");
    private static final List<String> HEARING_STATES = List.of("PLANNED", "HELD", "FAILED", "DROPPED");
    private static final String[] KINDS = {"room", "judge", "party", "interpreter"};

    /** How often something rare came to be, so that a test can see that its runs reach it. */
    final Map<String, Integer> seen = new TreeMap<>();

    private int now = 0;
    private final int[] prices = {10, 10, 10, 10};
    private final int[] languages = new int[4];
    private final boolean[] waivers = new boolean[6];
    private final List<Matter> matters = new ArrayList<>();
    private final List<Hearing> hearings = new ArrayList<>();
    private final List<Entry> ledger = new ArrayList<>();
    private final Map<String, Paid> paidTime = new TreeMap<>();

    private void saw(String what) {
        seen.merge(what, 1, Integer::sum);
    }

    private static void index(boolean isFine) {
        if (!isFine) {
            throw new Refusal("IndexOutOfBoundsException");
        }
    }

    private static void argument(boolean isFine) {
        if (!isFine) {
            throw new Refusal("IllegalArgumentException");
        }
    }

    private static void state(boolean isFine) {
        if (!isFine) {
            throw new Refusal("IllegalStateException");
        }
    }

    private static boolean between(int low, int n, int high) {
        return low <= n && n <= high;
    }

    private boolean isMatter(int m) {
        return between(0, m, matters.size() - 1);
    }

    private boolean isHearing(int h) {
        return between(0, h, hearings.size() - 1);
    }

    private int balance(int matter) {
        int sum = 0;
        for (Entry e : ledger) {
            sum += e.matter() == matter ? e.amount() : 0;
        }
        return sum;
    }

    private void book(int matter, int amount) {
        ledger.add(new Entry(matter, amount));
    }

    int interpreter(int i, int known, int price) {
        index(between(0, i, 3));
        argument(between(0, known, 15) && between(1, price, 99));
        int before = prices[i];
        prices[i] = price;
        languages[i] = known;
        return before;
    }

    boolean waive(int party, boolean isOn) {
        index(between(0, party, 5));
        boolean before = waivers[party];
        waivers[party] = isOn;
        return before;
    }

    int file(int judge, int first, int second, int language) {
        index(between(0, judge, 3) && between(0, first, 5) && between(0, second, 5) && between(-1, language, 3));
        argument(first != second);
        state(matters.size() < 12);
        Matter m = new Matter();
        m.judge = judge;
        m.first = first;
        m.second = second;
        m.language = language;
        m.filedAt = now;
        matters.add(m);
        if (!waivers[first]) {
            book(matters.size() - 1, -50);
        }
        return matters.size() - 1;
    }

    int pay(int matter, int amount) {
        index(isMatter(matter));
        argument(between(1, amount, 9999));
        book(matter, amount);
        return balance(matter);
    }

    int decide(int matter) {
        index(isMatter(matter));
        Matter m = matters.get(matter);
        state(m.state.equals("HEARD"));
        m.state = "DECIDED";
        int dropped = 0;
        for (Hearing h : hearings) {
            if (h.matter == matter && h.state.equals("PLANNED")) {
                dropped++;
                if (h.from <= now) {
                    saw("begun when decided");
                } else {
                    saw("to come when decided");
                    goFrom(h);
                }
                h.state = "DROPPED";
            }
        }
        return dropped;
    }

    int appeal(int matter) {
        index(isMatter(matter));
        Matter m = matters.get(matter);
        state(m.state.equals("DECIDED") && balance(matter) >= 0);
        saw("appeal");
        m.state = "HELD_UP";
        if (!waivers[m.first]) {
            book(matter, -80);
        }
        return balance(matter);
    }

    int settle(int matter, boolean isGranted) {
        index(isMatter(matter));
        Matter m = matters.get(matter);
        state(m.state.equals("HELD_UP"));
        saw(isGranted ? "granted" : "dismissed");
        m.state = isGranted ? "FILED" : "DECIDED";
        return termEnd(m);
    }

    int close(int matter) {
        index(isMatter(matter));
        state(matters.get(matter).state.equals("DECIDED"));
        saw("closed");
        matters.get(matter).state = "CLOSED";
        return balance(matter);
    }

    private static int termEnd(Matter m) {
        return m.filedAt + 100 + m.heldUpHours;
    }

    int plan(int matter, int room, int interpreter, int from, int hours) {
        index(isMatter(matter) && between(0, room, 3) && between(-1, interpreter, 3));
        argument(between(now + 1, from, 999) && between(1, hours, 4));
        String of = matters.get(matter).state;
        state(of.equals("FILED") || of.equals("HEARD"));
        state(suits(matter, interpreter));
        state(reason(-1, matter, room, interpreter, from, hours) == 0);
        state(hearings.size() < 24);
        Hearing h = new Hearing();
        h.matter = matter;
        h.hours = hours;
        hearings.add(h);
        come(h, room, interpreter, from);
        return hearings.size() - 1;
    }

    int move(int hearing, int room, int interpreter, int from) {
        index(isHearing(hearing) && between(0, room, 3) && between(-1, interpreter, 3));
        argument(between(now + 1, from, 999));
        Hearing h = hearings.get(hearing);
        state(h.state.equals("PLANNED") && h.from > now);
        state(suits(h.matter, interpreter));
        state(reason(hearing, h.matter, room, interpreter, from, h.hours) == 0);
        if (matters.get(h.matter).state.equals("LAPSED")) {
            saw("a LAPSED matter's hearing moved");
        }
        goFrom(h);
        come(h, room, interpreter, from);
        return balance(h.matter);
    }

    int drop(int hearing) {
        index(isHearing(hearing));
        Hearing h = hearings.get(hearing);
        state(h.state.equals("PLANNED") && h.from > now);
        goFrom(h);
        h.state = "DROPPED";
        return balance(h.matter);
    }

    private boolean suits(int matter, int interpreter) {
        int language = matters.get(matter).language;
        if (language == -1) {
            return interpreter == -1;
        }
        return interpreter != -1 && (languages[interpreter] & (1 << language)) != 0;
    }

    private void come(Hearing h, int room, int interpreter, int from) {
        h.room = room;
        h.interpreter = interpreter;
        h.from = from;
        h.told.clear();
        h.charges.clear();
        for (int hour = from; interpreter != -1 && hour < from + h.hours; hour++) {
            int charge = prices[interpreter];
            Paid paid = paidTime.remove(interpreter + " at " + hour);
            if (paid != null && paid.matter() == h.matter) {
                saw("own paid time");
                charge = 0;
            } else if (paid != null) {
                saw(paid.amount() % 2 == 0 ? "a half" : "a half rounded down");
                charge = Math.floorDiv(paid.amount(), 2);
                book(paid.matter(), charge);
            }
            h.charges.add(charge);
            book(h.matter, -charge);
        }
    }

    private void goFrom(Hearing h) {
        boolean isEarly = h.from >= now + 8;
        for (int k = 0; k < h.charges.size(); k++) {
            if (isEarly) {
                book(h.matter, h.charges.get(k));
            } else {
                paidTime.put(h.interpreter + " at " + (h.from + k), new Paid(h.matter, h.charges.get(k)));
            }
        }
        if (!h.charges.isEmpty()) {
            saw(isEarly ? "given back" : "stays paid");
        }
    }

    boolean notice(int hearing, int party) {
        index(isHearing(hearing) && between(0, party, 5));
        Hearing h = hearings.get(hearing);
        Matter m = matters.get(h.matter);
        argument(party == m.first || party == m.second);
        state(h.state.equals("PLANNED"));
        if (h.from < now + 4) {
            return false;
        }
        h.told.add(party);
        return true;
    }

    int pass(int hours) {
        argument(between(1, hours, 50));
        state(now <= 1000 - hours);
        int held = 0;
        for (int end = now + hours; now < end;) {
            now++;
            paidTime.keySet().removeIf(key -> key.endsWith(" at " + now));
            for (Hearing h : hearings) {
                if (h.state.equals("PLANNED") && h.from + h.hours == now) {
                    Matter m = matters.get(h.matter);
                    boolean isHeld = (m.state.equals("FILED") || m.state.equals("HEARD")) && h.told.size() == 2;
                    h.state = isHeld ? "HELD" : "FAILED";
                    m.state = isHeld ? "HEARD" : m.state;
                    held += isHeld ? 1 : 0;
                    saw(h.state);
                }
            }
            for (Matter m : matters) {
                if (m.state.equals("HELD_UP")) {
                    m.heldUpHours++;
                } else if ((m.state.equals("FILED") || m.state.equals("HEARD")) && now >= termEnd(m)) {
                    m.state = "LAPSED";
                    saw("LAPSED");
                }
            }
        }
        return held;
    }

    private List<String> words(int kind, int matter, int room, int interpreter, int from, int hours) {
        Matter m = matters.get(matter);
        int[][] who = {{room}, {m.judge}, {m.first, m.second}, interpreter == -1 ? new int[0] : new int[] {interpreter}};
        List<String> words = new ArrayList<>();
        for (int one : who[kind]) {
            for (int hour = from; hour < from + hours; hour++) {
                words.add(KINDS[kind] + " " + one + " at " + hour);
            }
        }
        return words;
    }

    private List<String> words(int kind, Hearing h) {
        return words(kind, h.matter, h.room, h.interpreter, h.from, h.hours);
    }

    private int reason(int itself, int matter, int room, int interpreter, int from, int hours) {
        for (int kind = 0; kind < 4; kind++) {
            List<String> wanted = words(kind, matter, room, interpreter, from, hours);
            for (int other = 0; other < hearings.size(); other++) {
                Hearing h = hearings.get(other);
                if (other != itself && h.state.equals("PLANNED") && words(kind, h).stream().anyMatch(wanted::contains)) {
                    saw("clash " + (kind + 1));
                    return kind + 1;
                }
            }
        }
        return 0;
    }

    int clash(int matter, int room, int interpreter, int from, int hours) {
        index(isMatter(matter) && between(0, room, 3) && between(-1, interpreter, 3));
        argument(between(0, from, 999) && between(1, hours, 4));
        return reason(-1, matter, room, interpreter, from, hours);
    }

    int at(int what, int who, int hour) {
        argument(between(0, what, 3));
        index(between(0, who, what == 2 ? 5 : 3) && between(0, hour, 1003));
        for (int h = 0; h < hearings.size(); h++) {
            String word = KINDS[what] + " " + who + " at " + hour;
            if (hearings.get(h).state.equals("PLANNED") && words(what, hearings.get(h)).contains(word)) {
                saw("at");
                return h;
            }
        }
        return -1;
    }

    int about(int matter, int what) {
        index(isMatter(matter));
        argument(between(0, what, 7));
        Matter m = matters.get(matter);
        int paid = 0;
        for (Paid p : paidTime.values()) {
            paid += p.matter() == matter ? 1 : 0;
        }
        int[] told = {MATTER_STATES.indexOf(m.state), m.judge, m.first, m.second, m.language,
            balance(matter), termEnd(m), paid};
        return told[what];
    }

    int hearing(int hearing, int what) {
        index(isHearing(hearing));
        argument(between(0, what, 7));
        Hearing h = hearings.get(hearing);
        int charged = 0;
        for (int charge : h.charges) {
            charged += charge;
        }
        int[] told = {HEARING_STATES.indexOf(h.state), h.matter, h.room, h.interpreter, h.from, h.hours,
            h.told.size(), charged};
        return told[what];
    }

    int paidBy(int interpreter, int hour) {
        index(between(0, interpreter, 3) && between(0, hour, 1003));
        Paid paid = paidTime.get(interpreter + " at " + hour);
        if (paid != null) {
            saw("paidBy");
        }
        return paid == null ? -1 : paid.matter();
    }

    int balances() {
        int sum = 0;
        for (Entry e : ledger) {
            sum += e.amount();
        }
        return sum;
    }

    int hour() {
        return now;
    }

    int matterCount() {
        return matters.size();
    }

    int hearingCount() {
        return hearings.size();
    }
}
