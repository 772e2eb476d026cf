/**
 * A court's calendar: matters with states and terms, their hearings, the notices of these, and
 * what all of it costs.
 */
public final class Hearingpay {
    public static final int NONE = -1;
    public static final int FILED = 0, HEARD = 1, DECIDED = 2, HELD_UP = 3, CLOSED = 4, LAPSED = 5;
    public static final int PLANNED = 0, HELD = 1, FAILED = 2, DROPPED = 3;

    private static final int ROOMS = 4, JUDGES = 4, PARTIES = 6, INTERPRETERS = 4, LANGUAGES = 4;
    private static final int ALL_LANGUAGES = 15;
    private static final int FIRST_PRICE = 10, MOST_PRICE = 99, MOST_AMOUNT = 9999;
    private static final int MOST_MATTERS = 12, MOST_HEARINGS = 24, MOST_HOURS = 4;
    private static final int TERM = 100, FILING_FEE = 50, APPEAL_FEE = 80;
    private static final int NOTICE_AHEAD = 4, GIVEN_BACK_AHEAD = 8;
    private static final int MOST_PASSING = 50, LAST_NOW = 1000, LAST_FROM = 999, LAST_HOUR = 1003;
    private static final int ROOM = 0, JUDGE = 1, PARTY = 2, INTERPRETER = 3, KINDS = 4;
    private static final int TOLD_OF = 8;

    private final Interpreter[] interpreters = new Interpreter[INTERPRETERS];
    private final boolean[] waived = new boolean[PARTIES];
    private final Matter[] matters = new Matter[MOST_MATTERS];
    private final Hearing[] hearings = new Hearing[MOST_HEARINGS];
    private int matterCount = 0;
    private int hearingCount = 0;
    private int now = 0;

    public Hearingpay() {
        for (int i = 0; i < interpreters.length; i++) {
            interpreters[i] = new Interpreter();
        }
    }

    // ---- people, matters

    public int interpreter(int interpreter, int languages, int price)
            throws IndexOutOfBoundsException, IllegalArgumentException {
        Interpreter i = interpreterAt(interpreter);
        if (i == null) {
            throw new IndexOutOfBoundsException("no such interpreter");
        }
        if (languages < 0 || languages > ALL_LANGUAGES || price < 1 || price > MOST_PRICE) {
            throw new IllegalArgumentException("languages or price is out of range");
        }
        int before = i.price;
        i.languages = languages;
        i.price = price;
        return before;
    }

    public boolean waive(int party, boolean isOn) throws IndexOutOfBoundsException {
        if (party < 0 || party >= waived.length) {
            throw new IndexOutOfBoundsException("no such party");
        }
        boolean before = waived[party];
        waived[party] = isOn;
        return before;
    }

    public int file(int judge, int first, int second, int language)
            throws IndexOutOfBoundsException, IllegalArgumentException, IllegalStateException {
        if (!isIn(judge, JUDGES) || !isIn(first, PARTIES) || !isIn(second, PARTIES)
                || !isInOrNone(language, LANGUAGES)) {
            throw new IndexOutOfBoundsException("no such judge, party or language");
        }
        if (first == second) {
            throw new IllegalArgumentException("both parties are the same");
        }
        if (!isIn(matterCount, matters.length)) {
            throw new IllegalStateException("there are as many matters as there can be");
        }
        Matter m = new Matter(matterCount, judge, first, second, language, now + TERM);
        m.balance -= feeFor(m, FILING_FEE);
        matters[matterCount] = m;
        matterCount++;
        return m.number;
    }

    public int pay(int matter, int amount) throws IndexOutOfBoundsException, IllegalArgumentException {
        Matter m = matterAt(matter);
        if (m == null) {
            throw new IndexOutOfBoundsException("no such matter");
        }
        if (amount < 1 || amount > MOST_AMOUNT) {
            throw new IllegalArgumentException("amount is out of range");
        }
        m.balance += amount;
        return m.balance;
    }

    public int decide(int matter) throws IndexOutOfBoundsException, IllegalStateException {
        Matter m = matterAt(matter);
        if (m == null) {
            throw new IndexOutOfBoundsException("no such matter");
        }
        if (m.state != HEARD) {
            throw new IllegalStateException("the matter is not HEARD");
        }
        m.state = DECIDED;
        return dropAllOf(m);
    }

    public int appeal(int matter) throws IndexOutOfBoundsException, IllegalStateException {
        Matter m = matterAt(matter);
        if (m == null) {
            throw new IndexOutOfBoundsException("no such matter");
        }
        if (m.state != DECIDED || m.balance < 0) {
            throw new IllegalStateException("the matter is not DECIDED, or its balance is below 0");
        }
        m.state = HELD_UP;
        m.balance -= feeFor(m, APPEAL_FEE);
        return m.balance;
    }

    public int settle(int matter, boolean isGranted) throws IndexOutOfBoundsException, IllegalStateException {
        Matter m = matterAt(matter);
        if (m == null) {
            throw new IndexOutOfBoundsException("no such matter");
        }
        if (m.state != HELD_UP) {
            throw new IllegalStateException("the matter is not HELD_UP");
        }
        m.state = isGranted ? FILED : DECIDED;
        return m.end;
    }

    public int close(int matter) throws IndexOutOfBoundsException, IllegalStateException {
        Matter m = matterAt(matter);
        if (m == null) {
            throw new IndexOutOfBoundsException("no such matter");
        }
        if (m.state != DECIDED) {
            throw new IllegalStateException("the matter is not DECIDED");
        }
        m.state = CLOSED;
        return m.balance;
    }

    // ---- hearings

    public int plan(int matter, int room, int interpreter, int from, int hours)
            throws IndexOutOfBoundsException, IllegalArgumentException, IllegalStateException {
        Matter m = matterAt(matter);
        if (m == null || !isIn(room, ROOMS) || !isInOrNone(interpreter, INTERPRETERS)) {
            throw new IndexOutOfBoundsException("no such matter, room or interpreter");
        }
        if (from <= now || from > LAST_FROM || hours < 1 || hours > MOST_HOURS) {
            throw new IllegalArgumentException("from or hours is out of range");
        }
        if (!m.isOpen() || !isAsNeeded(m, interpreter) || !isIn(hearingCount, hearings.length)) {
            throw new IllegalStateException("the matter, its interpreter or the calendar allows no hearing");
        }
        if (clashReason(null, m, room, interpreter, from, hours) != 0) {
            throw new IllegalStateException("the hearing clashes");
        }
        Hearing h = new Hearing(hearingCount, m, hours);
        hearings[hearingCount] = h;
        hearingCount++;
        put(h, room, interpreter, from);
        return h.number;
    }

    public int move(int hearing, int room, int interpreter, int from)
            throws IndexOutOfBoundsException, IllegalArgumentException, IllegalStateException {
        Hearing h = hearingAt(hearing);
        if (h == null || !isIn(room, ROOMS) || !isInOrNone(interpreter, INTERPRETERS)) {
            throw new IndexOutOfBoundsException("no such hearing, room or interpreter");
        }
        if (from <= now || from > LAST_FROM) {
            throw new IllegalArgumentException("from is out of range");
        }
        if (!isToBegin(h) || !isAsNeeded(h.matter, interpreter)) {
            throw new IllegalStateException("the hearing is not to come, or its interpreter not as needed");
        }
        if (clashReason(h, h.matter, room, interpreter, from, h.hours) != 0) {
            throw new IllegalStateException("the hearing clashes");
        }
        leave(h);
        put(h, room, interpreter, from);
        return h.matter.balance;
    }

    public int drop(int hearing) throws IndexOutOfBoundsException, IllegalStateException {
        Hearing h = hearingAt(hearing);
        if (h == null) {
            throw new IndexOutOfBoundsException("no such hearing");
        }
        if (!isToBegin(h)) {
            throw new IllegalStateException("the hearing is not PLANNED, or has begun");
        }
        leave(h);
        h.state = DROPPED;
        return h.matter.balance;
    }

    public boolean notice(int hearing, int party)
            throws IndexOutOfBoundsException, IllegalArgumentException, IllegalStateException {
        Hearing h = hearingAt(hearing);
        if (h == null || !isIn(party, PARTIES)) {
            throw new IndexOutOfBoundsException("no such hearing or party");
        }
        if (!h.matter.isOf(party)) {
            throw new IllegalArgumentException("the party is none of its matter");
        }
        if (h.state != PLANNED) {
            throw new IllegalStateException("the hearing is not PLANNED");
        }
        boolean isInTime = h.from - now >= NOTICE_AHEAD;
        if (isInTime) {
            h.tell(party);
        }
        return isInTime;
    }

    public int pass(int hours) throws IllegalArgumentException, IllegalStateException {
        if (hours < 1 || hours > MOST_PASSING) {
            throw new IllegalArgumentException("hours is out of range");
        }
        if (now + hours > LAST_NOW) {
            throw new IllegalStateException("it would be above 1000");
        }
        int held = 0;
        for (int i = 0; i < hours; i++) {
            now++;
            held += endHearings();
            runTerms();
        }
        return held;
    }

    // ---- what there is

    public int clash(int matter, int room, int interpreter, int from, int hours)
            throws IndexOutOfBoundsException, IllegalArgumentException {
        Matter m = matterAt(matter);
        if (m == null || !isIn(room, ROOMS) || !isInOrNone(interpreter, INTERPRETERS)) {
            throw new IndexOutOfBoundsException("no such matter, room or interpreter");
        }
        if (from < 0 || from > LAST_FROM || hours < 1 || hours > MOST_HOURS) {
            throw new IllegalArgumentException("from or hours is out of range");
        }
        return clashReason(null, m, room, interpreter, from, hours);
    }

    public int at(int what, int who, int hour) throws IllegalArgumentException, IndexOutOfBoundsException {
        if (!isIn(what, KINDS)) {
            throw new IllegalArgumentException("what is out of range");
        }
        if (!isIn(who, howMany(what)) || !isCalendarHour(hour)) {
            throw new IndexOutOfBoundsException("no such room, judge, party or interpreter, or hour");
        }
        for (int i = 0; i < hearingCount; i++) {
            Hearing h = hearingAt(i);
            if (h != null && h.takesPartOf(hour, 1) && h.needs(what, who)) {
                return h.number;
            }
        }
        return NONE;
    }

    public int about(int matter, int what) throws IndexOutOfBoundsException, IllegalArgumentException {
        Matter m = matterAt(matter);
        if (m == null) {
            throw new IndexOutOfBoundsException("no such matter");
        }
        if (!isIn(what, TOLD_OF)) {
            throw new IllegalArgumentException("what is out of range");
        }
        switch (what) {
            case 0: return m.state;
            case 1: return m.judge;
            case 2: return m.first;
            case 3: return m.second;
            case 4: return m.language;
            case 5: return m.balance;
            case 6: return m.end;
            default: return paidHoursOf(m);
        }
    }

    public int hearing(int hearing, int what) throws IndexOutOfBoundsException, IllegalArgumentException {
        Hearing h = hearingAt(hearing);
        if (h == null) {
            throw new IndexOutOfBoundsException("no such hearing");
        }
        if (!isIn(what, TOLD_OF)) {
            throw new IllegalArgumentException("what is out of range");
        }
        switch (what) {
            case 0: return h.state;
            case 1: return h.matter.number;
            case 2: return h.room;
            case 3: return h.interpreter;
            case 4: return h.from;
            case 5: return h.hours;
            case 6: return h.notices();
            default: return h.charged();
        }
    }

    public int paidBy(int interpreter, int hour) throws IndexOutOfBoundsException {
        Interpreter i = interpreterAt(interpreter);
        if (i == null || !isCalendarHour(hour)) {
            throw new IndexOutOfBoundsException("no such interpreter or hour");
        }
        Matter payer = i.payer(hour, now);
        return payer == null ? NONE : payer.number;
    }

    public int balances() {
        int sum = 0;
        for (int i = 0; i < matterCount; i++) {
            Matter m = matterAt(i);
            if (m != null) {
                sum += m.balance;
            }
        }
        return sum;
    }

    public int hour() {
        return now;
    }

    // ---- what exists

    private static boolean isIn(int number, int count) {
        return number >= 0 && number < count;
    }

    private static boolean isInOrNone(int number, int count) {
        return number == NONE || isIn(number, count);
    }

    private static boolean isCalendarHour(int hour) {
        return hour >= 0 && hour <= LAST_HOUR;
    }

    private static int howMany(int what) {
        switch (what) {
            case ROOM: return ROOMS;
            case JUDGE: return JUDGES;
            case PARTY: return PARTIES;
            default: return INTERPRETERS;
        }
    }

    /** Null if there is none of that number. */
    private Interpreter interpreterAt(int number) {
        return number >= 0 && number < interpreters.length ? interpreters[number] : null;
    }

    /** Null if there is none of that number. */
    private Matter matterAt(int number) {
        return number >= 0 && number < matterCount && number < matters.length ? matters[number] : null;
    }

    /** Null if there is none of that number. */
    private Hearing hearingAt(int number) {
        return number >= 0 && number < hearingCount && number < hearings.length ? hearings[number] : null;
    }

    // ---- places in the calendar

    private boolean isToBegin(Hearing h) {
        return h.state == PLANNED && h.from > now;
    }

    private boolean isAsNeeded(Matter m, int interpreter) {
        Interpreter i = interpreterAt(interpreter);
        if (m.language == NONE || i == null) {
            return m.language == NONE && i == null;
        }
        return i.knows(m.language);
    }

    /** The hearing itself, null for a new one, does not count. */
    private int clashReason(Hearing itself, Matter m, int room, int interpreter, int from, int hours) {
        int reason = 0;
        for (int i = 0; i < hearingCount; i++) {
            Hearing h = hearingAt(i);
            if (h != null && h != itself && h.takesPartOf(from, hours)) {
                int other = h.reasonAgainst(m, room, interpreter);
                if (other != 0 && (reason == 0 || other < reason)) {
                    reason = other;
                }
            }
        }
        return reason;
    }

    private void put(Hearing h, int room, int interpreter, int from) {
        h.settleAt(room, interpreter, from);
        Interpreter i = interpreterAt(interpreter);
        for (int k = 0; k < h.hours && k < h.charges.length; k++) {
            h.charges[k] = i == null ? 0 : i.take(from + k, now, h.matter);
        }
        h.matter.balance -= h.charged();
    }

    /** For a hearing that is to begin: its charges go back, or its hours become paid time. */
    private void leave(Hearing h) {
        if (h.from - now >= GIVEN_BACK_AHEAD) {
            h.matter.balance += h.charged();
            return;
        }
        Interpreter i = interpreterAt(h.interpreter);
        for (int k = 0; i != null && k < h.hours && k < h.charges.length; k++) {
            i.keep(h.from + k, h.matter, h.charges[k]);
        }
    }

    private int dropAllOf(Matter m) {
        int dropped = 0;
        for (int i = 0; i < hearingCount; i++) {
            Hearing h = hearingAt(i);
            if (h != null && h.matter == m && h.state == PLANNED) {
                if (isToBegin(h)) {
                    leave(h);
                }
                h.state = DROPPED;
                dropped++;
            }
        }
        return dropped;
    }

    // ---- time

    private int endHearings() {
        int held = 0;
        for (int i = 0; i < hearingCount; i++) {
            Hearing h = hearingAt(i);
            if (h != null && h.state == PLANNED && h.from + h.hours <= now) {
                h.end();
                if (h.state == HELD) {
                    held++;
                }
            }
        }
        return held;
    }

    private void runTerms() {
        for (int i = 0; i < matterCount; i++) {
            Matter m = matterAt(i);
            if (m != null) {
                m.runTerm(now);
            }
        }
    }

    // ---- money

    private int feeFor(Matter m, int fee) {
        boolean isWaived = m.first >= 0 && m.first < waived.length && waived[m.first];
        return isWaived ? 0 : fee;
    }

    private int paidHoursOf(Matter m) {
        int count = 0;
        for (int i = 0; i < interpreters.length; i++) {
            Interpreter paid = interpreterAt(i);
            if (paid != null) {
                count += paid.hoursPaidBy(m, now);
            }
        }
        return count;
    }

    private static final class Matter {
        final int number;
        final int judge;
        final int first;
        final int second;
        final int language;
        int state = FILED;
        int balance = 0;
        int end;

        Matter(int number, int judge, int first, int second, int language, int end) {
            this.number = number;
            this.judge = judge;
            this.first = first;
            this.second = second;
            this.language = language;
            this.end = end;
        }

        boolean isOpen() {
            return state == FILED || state == HEARD;
        }

        boolean isOf(int party) {
            return party == first || party == second;
        }

        void runTerm(int now) {
            if (state == HELD_UP) {
                end++;
            } else if (isOpen() && end <= now) {
                state = LAPSED;
            }
        }
    }

    private static final class Hearing {
        final int number;
        final Matter matter;
        final int hours;
        final int[] charges = new int[MOST_HOURS];
        int state = PLANNED;
        int room = NONE;
        int interpreter = NONE;
        int from = NONE;
        boolean isFirstTold = false;
        boolean isSecondTold = false;

        Hearing(int number, Matter matter, int hours) {
            this.number = number;
            this.matter = matter;
            this.hours = hours;
        }

        void settleAt(int newRoom, int newInterpreter, int newFrom) {
            room = newRoom;
            interpreter = newInterpreter;
            from = newFrom;
            isFirstTold = false;
            isSecondTold = false;
        }

        boolean takesPartOf(int otherFrom, int otherHours) {
            return state == PLANNED && from < otherFrom + otherHours && otherFrom < from + hours;
        }

        boolean needs(int what, int who) {
            switch (what) {
                case ROOM: return room == who;
                case JUDGE: return matter.judge == who;
                case PARTY: return matter.isOf(who);
                default: return interpreter == who;
            }
        }

        /** Why it keeps a hearing of that matter out of its hours, 1 to 4; 0 if it does not. */
        int reasonAgainst(Matter m, int otherRoom, int otherInterpreter) {
            if (needs(ROOM, otherRoom)) {
                return 1;
            }
            if (needs(JUDGE, m.judge)) {
                return 2;
            }
            if (needs(PARTY, m.first) || needs(PARTY, m.second)) {
                return 3;
            }
            return otherInterpreter != NONE && needs(INTERPRETER, otherInterpreter) ? 4 : 0;
        }

        void tell(int party) {
            if (party == matter.first) {
                isFirstTold = true;
            }
            if (party == matter.second) {
                isSecondTold = true;
            }
        }

        int notices() {
            return (isFirstTold ? 1 : 0) + (isSecondTold ? 1 : 0);
        }

        int charged() {
            int sum = 0;
            for (int k = 0; k < charges.length; k++) {
                sum += charges[k];
            }
            return sum;
        }

        void end() {
            if (matter.isOpen() && isFirstTold && isSecondTold) {
                state = HELD;
                matter.state = HEARD;
            } else {
                state = FAILED;
            }
        }
    }

    private static final class Interpreter {
        // Paid time is left less than 8 hours ahead and for 4 hours at most, so it ends 10 hours
        // ahead of now; 16 places that the hours use in turn never hold two that are to come.
        private static final int PLACES = 16;

        int languages = 0;
        int price = FIRST_PRICE;
        final int[] paidHours = new int[PLACES];
        final Matter[] payers = new Matter[PLACES];
        final int[] amounts = new int[PLACES];

        private static int placeOf(int hour) {
            return hour & (PLACES - 1);
        }

        boolean knows(int language) {
            return (languages >> language & 1) == 1;
        }

        /** Null if the hour is no paid time. */
        Matter payer(int hour, int now) {
            int place = placeOf(hour);
            return hour > now && paidHours[place] == hour ? payers[place] : null;
        }

        void keep(int hour, Matter payer, int amount) {
            int place = placeOf(hour);
            paidHours[place] = hour;
            payers[place] = payer;
            amounts[place] = amount;
        }

        /** Takes an hour for a matter, and returns what the matter is charged for it. */
        int take(int hour, int now, Matter taker) {
            Matter payer = payer(hour, now);
            if (payer == null) {
                return price;
            }
            int place = placeOf(hour);
            payers[place] = null;
            if (payer == taker) {
                return 0;
            }
            int half = amounts[place] / 2;
            payer.balance += half;
            return half;
        }

        int hoursPaidBy(Matter m, int now) {
            int count = 0;
            for (int place = 0; place < PLACES; place++) {
                if (payers[place] == m && paidHours[place] > now) {
                    count++;
                }
            }
            return count;
        }
    }
}
