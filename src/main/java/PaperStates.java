/**
 * Papers of moves: notices that countries agree to or refuse, and the moves made under them.
 * The promises named in the comments are those of ../shared/DOC.md.
 */
public final class PaperStates {
    public static final int NONE = -1;

    private static final int LAST_DAY = 100000;
    private static final int MOST_NOTICES = 6;
    private static final int MOST_MOVES = 12;
    private static final int MOST_CARRIERS = 6;
    private static final int COUNTRIES = 6;
    private static final int PERSONS = 8;
    private static final int EVENTS = 5;
    private static final int CARRIER_NAMES = 100;
    private static final int MOST_DAYS = 1000;
    private static final int DAYS_AHEAD = 3;
    private static final int FIRST_LIMIT = 365;
    private static final long MOST_GRAMS = 1000000000L;
    private static final long MOST_CENTS = 1000000000L;
    private static final long MOST_CENTS_IN_ALL = 10000000000L;

    private static final int WAITING = 0;
    private static final int AGREED = 1;
    private static final int REFUSED = 2;
    private static final int LAPSED = 3;

    private static final int NOT_TOLD = 0;
    private static final int ASKED = 1;
    private static final int YES = 2;
    private static final int NO = 3;

    private static final int TOLD = 0;
    private static final int TAKEN = 1;
    private static final int RECEIVED = 2;
    private static final int RECOVERED = 3;
    private static final int RETURNED = 4;
    private static final int CANCELLED = 5;
    private static final int MOVE_STATES = 6;

    private static final int TAKE = 0;
    private static final int RECOVER = 2;

    private static final int NO_SUCH = -1;
    private static final int NO_RIGHT = -2;
    private static final int NO_WAY = -3;
    private static final int NOT_YET = -4;
    private static final int NO_MARK = -5;
    private static final int NOT_AGREED = -2;
    private static final int TOO_MUCH = -3;

    /** A line for each event, in it the state that each state leads to. */
    private static final int[] LEADS = {
        TAKEN, NONE, NONE, NONE, NONE, NONE,
        NONE, RECEIVED, NONE, NONE, NONE, NONE,
        NONE, NONE, RECOVERED, NONE, NONE, NONE,
        NONE, RETURNED, RETURNED, NONE, NONE, NONE,
        CANCELLED, NONE, NONE, NONE, NONE, NONE
    };

    private static final char[] STATE_LETTERS = {'t', 'k', 'v', 'c', 'r', 'x'};

    /** The longest head has 28 bytes, and the longest move 15. */
    private static final int PAPER_BYTES = 28 + MOST_MOVES * 15;
    private static final long HIGHEST_UNIT = 1000000000L;

    private final Notice[] notices = new Notice[MOST_NOTICES];
    private final Move[] moves = new Move[MOST_MOVES];
    private final boolean[] rights = new boolean[PERSONS * EVENTS];
    private final Paper paper = new Paper();
    private int noticeCount;
    private int moveCount;
    private int today;
    private int limitDays;

    public PaperStates() {
        limitDays = FIRST_LIMIT;
    }

    public int day(int now) {
        if (now < today || now > LAST_DAY) {
            return NONE;
        }
        today = now;
        int silent = 0;
        for (int n = 0; n < noticeCount; n++) {
            Notice told = noticeAt(n);
            if (told != null) {
                silent += told.agreeSilently(now);
            }
        }
        return silent;
    }

    public int notice(long grams, int from, int to) {
        if (noticeCount >= MOST_NOTICES || grams < 1 || grams > MOST_GRAMS) {
            return NONE;
        }
        if (from < 0 || to < from || to > LAST_DAY) {
            return NONE;
        }
        int number = noticeCount;
        notices[number] = new Notice(grams, from, to);
        noticeCount++;
        return number;
    }

    public boolean country(int notice, int c, int days) {
        Notice told = noticeAt(notice);
        if (told == null || days < 0 || days > MOST_DAYS) {
            return false;
        }
        return told.ask(c, days, today);
    }

    public boolean says(int notice, int c, boolean yes) {
        Notice told = noticeAt(notice);
        return told != null && told.answer(c, yes);
    }

    public int state(int notice) {
        Notice told = noticeAt(notice);
        return told == null ? NONE : told.stateOn(today);
    }

    public int move(int notice, long grams, int day) {
        Notice told = noticeAt(notice);
        if (told == null || moveCount >= MOST_MOVES || grams < 1) {
            return NONE;
        }
        if (!told.covers(day) || day < today + DAYS_AHEAD) {
            return NONE;
        }
        if (told.stateOn(today) != AGREED) {
            return NOT_AGREED;
        }
        if (grams > told.grams - gramsInMoves(notice)) {
            return TOO_MUCH;
        }
        int number = moveCount;
        moves[number] = new Move(notice, grams, day, today);
        moveCount++;
        return number;
    }

    public int moveState(int move) {
        Move found = moveAt(move);
        return found == null ? NONE : found.state;
    }

    public boolean right(int person, int event, boolean on) {
        if (!isPerson(person) || !isEvent(event)) {
            return false;
        }
        rights[person * EVENTS + event] = on;
        return true;
    }

    public boolean may(int person, int event) {
        return hasRight(person, event);
    }

    public int event(int move, int event, int person) {
        Move found = moveAt(move);
        if (found == null || !isEvent(event) || !isPerson(person)) {
            return NO_SUCH;
        }
        if (!hasRight(person, event)) {
            return NO_RIGHT;
        }
        int next = nextState(event, found.state);
        if (next == NONE) {
            return NO_WAY;
        }
        if (event == TAKE && !canBeTaken(found)) {
            return NOT_YET;
        }
        if (event == RECOVER && !found.marked) {
            return NO_MARK;
        }
        found.enter(next, today);
        return next;
    }

    public boolean mark(int move, int a, int b) {
        Move found = moveAt(move);
        if (found == null || found.state != RECEIVED || found.marked) {
            return false;
        }
        if (a == b || !hasRight(a, RECOVER) || !hasRight(b, RECOVER)) {
            return false;
        }
        found.marked = true;
        return true;
    }

    public long left(int notice) {
        Notice told = noticeAt(notice);
        return told == null ? NONE : told.grams - gramsInMoves(notice);
    }

    public boolean bank(int notice, long cents) {
        Notice told = noticeAt(notice);
        if (told == null || cents < 1 || cents > MOST_CENTS) {
            return false;
        }
        if (told.cents + cents > MOST_CENTS_IN_ALL) {
            return false;
        }
        told.cents += cents;
        return true;
    }

    public long held(int notice) {
        Notice told = noticeAt(notice);
        if (told == null) {
            return NONE;
        }
        return shareUp(told.cents, told.grams - gramsRecovered(notice), told.grams);
    }

    public boolean limit(int days) {
        if (days < 0 || days > MOST_DAYS) {
            return false;
        }
        limitDays = days;
        return true;
    }

    public int late(int k) {
        int before = 0;
        for (int m = 0; m < moveCount; m++) {
            Move found = moveAt(m);
            if (found != null && isLate(found)) {
                if (before == k) {
                    return m;
                }
                before++;
            }
        }
        return NONE;
    }

    public int carrier(int move, int c) {
        Move found = moveAt(move);
        if (found == null || found.state != TAKEN || c < 0 || c >= CARRIER_NAMES) {
            return NONE;
        }
        return found.addCarrier(c);
    }

    public int back(int move, int k) {
        Move found = moveAt(move);
        return found == null ? NONE : found.carrierBack(k);
    }

    public int print(int notice, int i) {
        Notice told = noticeAt(notice);
        if (told == null || i < 0) {
            return NONE;
        }
        paper.clear();
        writeHead(notice, told);
        for (int m = 0; m < moveCount; m++) {
            Move found = moveAt(m);
            if (found != null && found.notice == notice) {
                writeMove(m, found);
            }
        }
        return paper.byteAt(i);
    }

    private Notice noticeAt(int number) {
        return number < 0 || number >= noticeCount ? null : notices[number];
    }

    private Move moveAt(int number) {
        return number < 0 || number >= moveCount ? null : moves[number];
    }

    private static boolean isPerson(int person) {
        return person >= 0 && person < PERSONS;
    }

    private static boolean isEvent(int event) {
        return event >= 0 && event < EVENTS;
    }

    private boolean hasRight(int person, int event) {
        return isPerson(person) && isEvent(event) && rights[person * EVENTS + event];
    }

    private static int nextState(int event, int state) {
        if (!isEvent(event) || state < 0 || state >= MOVE_STATES) {
            return NONE;
        }
        return LEADS[event * MOVE_STATES + state];
    }

    private boolean canBeTaken(Move found) {
        Notice told = noticeAt(found.notice);
        return today >= found.day && told != null && told.stateOn(today) == AGREED;
    }

    private boolean isLate(Move found) {
        return found.state == RECEIVED && today - found.since > limitDays;
    }

    private long gramsInMoves(int notice) {
        long sum = 0;
        for (int m = 0; m < moveCount; m++) {
            Move found = moveAt(m);
            if (found != null && found.notice == notice && found.usesGrams()) {
                sum += found.grams;
            }
        }
        return sum;
    }

    private long gramsRecovered(int notice) {
        long sum = 0;
        for (int m = 0; m < moveCount; m++) {
            Move found = moveAt(m);
            if (found != null && found.notice == notice && found.state == RECOVERED) {
                sum += found.grams;
            }
        }
        return sum;
    }

    /**
     * sum * part / whole, up. The sum is split by the whole first, because
     * 10000000000 cents times 1000000000 grams is more than a long holds.
     */
    private static long shareUp(long sum, long part, long whole) {
        if (whole < 1) {
            return 0;
        }
        long rest = sum % whole * part;
        long up = rest % whole == 0 ? 0 : 1;
        return sum / whole * part + rest / whole + up;
    }

    private void writeHead(int number, Notice told) {
        paper.addNumber(number);
        paper.add(' ');
        paper.addNumber(told.grams);
        paper.add(' ');
        paper.addNumber(told.from);
        paper.add(' ');
        paper.addNumber(told.to);
        paper.add(' ');
        paper.addNumber(told.stateOn(today));
    }

    private void writeMove(int number, Move found) {
        paper.add(',');
        paper.addNumber(number);
        paper.add(':');
        paper.addNumber(found.grams);
        paper.add(found.letter());
    }

    private static final class Notice {
        final long grams;
        final int from;
        final int to;
        final int[] answers = new int[COUNTRIES];
        final int[] askedOn = new int[COUNTRIES];
        final int[] daysOf = new int[COUNTRIES];
        long cents;

        Notice(long grams, int from, int to) {
            this.grams = grams;
            this.from = from;
            this.to = to;
        }

        boolean covers(int day) {
            return day >= from && day <= to;
        }

        boolean ask(int c, int days, int today) {
            if (c < 0 || c >= COUNTRIES || answers[c] != NOT_TOLD) {
                return false;
            }
            answers[c] = ASKED;
            askedOn[c] = today;
            daysOf[c] = days;
            return true;
        }

        boolean answer(int c, boolean yes) {
            if (c < 0 || c >= COUNTRIES || answers[c] != ASKED) {
                return false;
            }
            answers[c] = yes ? YES : NO;
            return true;
        }

        int agreeSilently(int today) {
            int silent = 0;
            for (int c = 0; c < COUNTRIES; c++) {
                if (answers[c] == ASKED && today - askedOn[c] > daysOf[c]) {
                    answers[c] = YES;
                    silent++;
                }
            }
            return silent;
        }

        int stateOn(int today) {
            if (countOf(NO) > 0) {
                return REFUSED;
            }
            if (today > to) {
                return LAPSED;
            }
            return countOf(YES) > 0 && countOf(ASKED) == 0 ? AGREED : WAITING;
        }

        private int countOf(int answer) {
            int count = 0;
            for (int c = 0; c < COUNTRIES; c++) {
                if (answers[c] == answer) {
                    count++;
                }
            }
            return count;
        }
    }

    private static final class Move {
        final int notice;
        final long grams;
        final int day;
        final int[] carriers = new int[MOST_CARRIERS];
        int carrierCount;
        int state;
        int since;
        boolean marked;

        Move(int notice, long grams, int day, int today) {
            this.notice = notice;
            this.grams = grams;
            this.day = day;
            this.state = TOLD;
            this.since = today;
        }

        void enter(int next, int today) {
            state = next;
            since = today;
        }

        boolean usesGrams() {
            return state != RETURNED && state != CANCELLED;
        }

        int addCarrier(int c) {
            if (carrierCount >= MOST_CARRIERS || carrierBack(0) == c) {
                return NONE;
            }
            carriers[carrierCount] = c;
            carrierCount++;
            return carrierCount;
        }

        int carrierBack(int k) {
            return k < 0 || k >= carrierCount ? NONE : carriers[carrierCount - 1 - k];
        }

        char letter() {
            return state < 0 || state >= MOVE_STATES ? '?' : STATE_LETTERS[state];
        }
    }

    /** One row of bytes, written anew for each paper, so that printing makes no objects. */
    private static final class Paper {
        private final byte[] row = new byte[PAPER_BYTES];
        private int length;

        void clear() {
            length = 0;
        }

        void add(char c) {
            if (length < PAPER_BYTES) {
                row[length] = (byte) c;
                length++;
            }
        }

        void addNumber(long number) {
            boolean begun = false;
            for (long unit = HIGHEST_UNIT; unit >= 1; unit /= 10) {
                long digit = number / unit % 10;
                begun = begun || digit != 0 || unit == 1;
                if (begun) {
                    add((char) ('0' + digit));
                }
            }
        }

        int byteAt(int i) {
            return i < 0 || i >= length ? NONE : row[i];
        }
    }
}
