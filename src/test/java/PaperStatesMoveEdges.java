/**
 * The sentences of promises 7 to 12 and 16 to 19 that name a boundary, each by a test of its own:
 * the last value that is allowed, the first one that is not, nothing there yet, all places taken,
 * and the orders in which a move and an event are looked at.
 */
public final class PaperStatesMoveEdges {
    private static final int LEAST = Integer.MIN_VALUE;
    private static final int MOST = Integer.MAX_VALUE;
    private static final long HIGHEST_GRAMS = 1000000000L;
    /** An int's worth of bits cut off leaves 1, so a cut to int would let it pass. */
    private static final long CUT_TO_ONE = 4294967297L;
    private static final int TAKE = 0;
    private static final int RECEIVE = 1;
    private static final int RECOVER = 2;
    private static final int RETURN = 3;
    private static final int CANCEL = 4;
    private static final String[] EVENT_NAMES = {"take", "receive", "recover", "return", "cancel"};
    private static final String[] STATE_NAMES = {"told", "taken", "received", "recovered", "returned", "cancelled"};

    private static String sentence = "";
    private static int sentences = 0;
    private static int wrong = 0;

    public static void main(String[] args) {
        move();
        moveState();
        right();
        may();
        event();
        mark();
        limit();
        late();
        carrier();
        back();
        System.out.println(sentences + " sentences on moves, " + wrong + " answers not as due");
        if (wrong != 0) {
            System.exit(1);
        }
    }

    private static void move() {
        moveWithoutNotice();
        moveFewestGrams();
        moveDaysOfTheNotice();
        moveThreeDaysBehindToday();
        moveOnTheLastDayOfAll();
        moveTwelveAtMost();
        moveTwelveOfAnyState();
        moveNotAgreed();
        moveTooManyGrams();
        moveGramsThatWouldWrap();
        moveGramsThatCameBack();
        moveNoneBeforeNotAgreed();
        moveNoneBeforeTooMany();
        moveNotAgreedBeforeTooMany();
    }

    private static void moveState() {
        moveStateWithoutMove();
        moveStateOfTheLast();
        moveStateOfEach();
    }

    private static void right() {
        rightPersons();
        rightEvents();
        rightOnAndOff();
        rightOfOnePairAlone();
    }

    private static void may() {
        mayPersons();
        mayEvents();
    }

    private static void event() {
        eventWithoutMove();
        eventNames();
        eventPersons();
        eventNoneBeforeNoRight();
        eventRightToThatEvent();
        eventNoRightBeforeState();
        eventTable();
        eventStateBeforeNotYet();
        eventStateBeforeNoMark();
        eventTakeOnTheDay();
        eventTakeAgreed();
        eventTakeOnTheNoticesLastDay();
        eventOthersNeedNoDay();
        eventOthersNeedNoAgreement();
        eventRecoverMarked();
        eventSinceToday();
    }

    private static void mark() {
        markWithoutMove();
        markStates();
        markDifferentPersons();
        markPersons();
        markRights();
        markTwice();
        markTooEarly();
        markOfOneMoveAlone();
    }

    private static void limit() {
        limitDays();
        limitOfZero();
        limitOf1000();
        limitRefusedStays();
    }

    private static void late() {
        lateNoneYet();
        lateMoreDaysThanTheLimit();
        lateReceivedAlone();
        lateByNumbers();
        lateAllTwelve();
    }

    private static void carrier() {
        carrierWithoutMove();
        carrierNames();
        carrierTakenAlone();
        carrierAnotherThanItsLatest();
        carrierSixAtMost();
        carrierOfEachMove();
    }

    private static void back() {
        backWithoutMove();
        backNoneYet();
        backFromTheLatestOn();
        backStays();
    }

    private static void sentence(String promise, String text) {
        sentence = "Promise " + promise + ": " + text;
        sentences++;
    }

    private static void due(String call, long got, long want) {
        if (got != want) {
            wrong++;
            System.out.println(sentence + ": " + call + " answered " + got + ", due is " + want);
        }
    }

    private static void due(String call, boolean got, boolean want) {
        due(call, got ? 1 : 0, want ? 1 : 0);
    }

    private static void addAgreed(PaperStates x, long grams, int from, int to) {
        int n = x.notice(grams, from, to);
        x.country(n, 0, 0);
        x.says(n, 0, true);
    }

    /** Notice 0, agreed, of so many grams for such days, and persons 0 and 1 with all rights. */
    private static PaperStates agreed(long grams, int from, int to) {
        PaperStates x = new PaperStates();
        addAgreed(x, grams, from, to);
        for (int e = 0; e < 5; e++) {
            x.right(0, e, true);
            x.right(1, e, true);
        }
        return x;
    }

    /** Twelve moves of one gram for day 3, told, and today is that day. */
    private static PaperStates withTwelve() {
        PaperStates x = agreed(100, 0, 100000);
        for (int m = 0; m < 12; m++) {
            x.move(0, 1, 3);
        }
        x.day(3);
        return x;
    }

    /** Six moves of 10 grams for day 3, each in the state that is its number, and today is that day. */
    private static PaperStates inAllStates() {
        PaperStates x = agreed(100, 0, 100000);
        for (int m = 0; m < 6; m++) {
            x.move(0, 10, 3);
        }
        x.day(3);
        for (int m = 1; m < 5; m++) {
            x.event(m, TAKE, 0);
        }
        x.event(2, RECEIVE, 0);
        x.event(3, RECEIVE, 0);
        x.mark(3, 0, 1);
        x.event(3, RECOVER, 0);
        x.event(4, RETURN, 0);
        x.event(5, CANCEL, 0);
        return x;
    }

    private static void moveWithoutNotice() {
        sentence("7", "NONE when these are not such: the notice");
        due("move(0, 1, 3) on a new object", new PaperStates().move(0, 1, 3), -1);
        PaperStates x = new PaperStates();
        for (int n = 0; n < 6; n++) {
            due("move of notice " + n + " before it is there", x.move(n, 1, 3), -1);
            addAgreed(x, 10, 0, 50);
        }
        int[] none = {-1, 6, LEAST, MOST};
        for (int n : none) {
            due("move(" + n + ", 1, 3)", x.move(n, 1, 3), -1);
        }
        due("moveState(0)", x.moveState(0), -1);
        due("move(5, 1, 3)", x.move(5, 1, 3), 0);
        due("left(5)", x.left(5), 9);
    }

    private static void moveFewestGrams() {
        sentence("7", "of 1 gram or more");
        PaperStates x = agreed(10, 0, 50);
        due("move(0, 0, 3)", x.move(0, 0, 3), -1);
        due("move(0, -1, 3)", x.move(0, -1, 3), -1);
        due("move(0, least, 3)", x.move(0, Long.MIN_VALUE, 3), -1);
        due("move(0, 1 - 2^32, 3)", x.move(0, 1 - 4294967296L, 3), -1);
        due("left(0)", x.left(0), 10);
        due("move(0, 1, 3)", x.move(0, 1, 3), 0);
        due("left(0) then", x.left(0), 9);
    }

    private static void moveDaysOfTheNotice() {
        sentence("7", "for a day of the notice's (both with it)");
        PaperStates x = agreed(10, 20, 30);
        int[] none = {19, 31, 0, -1, 100000, 100001, LEAST, MOST};
        for (int d : none) {
            due("move(0, 1, " + d + ")", x.move(0, 1, d), -1);
        }
        due("move(0, 1, 20)", x.move(0, 1, 20), 0);
        due("move(0, 1, 30)", x.move(0, 1, 30), 1);
        PaperStates y = agreed(10, 20, 20);
        due("before the only day", y.move(0, 1, 19), -1);
        due("behind the only day", y.move(0, 1, 21), -1);
        due("on the only day", y.move(0, 1, 20), 0);
    }

    private static void moveThreeDaysBehindToday() {
        sentence("7", "at least 3 days behind today");
        PaperStates x = agreed(10, 0, 50);
        int[] tooEarly = {0, 1, 2};
        for (int d : tooEarly) {
            due("move(0, 1, " + d + ") on day 0", x.move(0, 1, d), -1);
        }
        due("move(0, 1, 3) on day 0", x.move(0, 1, 3), 0);
        x.day(10);
        int[] still = {9, 10, 11, 12};
        for (int d : still) {
            due("move(0, 1, " + d + ") on day 10", x.move(0, 1, d), -1);
        }
        due("move(0, 1, 13) on day 10", x.move(0, 1, 13), 1);
        x.day(47);
        due("move(0, 1, 50) on day 47", x.move(0, 1, 50), 2);
        x.day(48);
        due("move(0, 1, 50) on day 48", x.move(0, 1, 50), -1);
        due("move(0, 1, 51) on day 48", x.move(0, 1, 51), -1);
    }

    private static void moveOnTheLastDayOfAll() {
        sentence("7", "at least 3 days behind today: the last day of all");
        PaperStates x = agreed(10, 0, 100000);
        x.day(99997);
        due("move(0, 1, 99999) on day 99997", x.move(0, 1, 99999), -1);
        due("move(0, 1, 100001) on day 99997", x.move(0, 1, 100001), -1);
        due("move(0, 1, 100000) on day 99997", x.move(0, 1, 100000), 0);
        x.day(99998);
        due("move(0, 1, 100000) on day 99998", x.move(0, 1, 100000), -1);
        x.day(100000);
        due("move(0, 1, 100000) on day 100000", x.move(0, 1, 100000), -1);
        due("move(0, 1, least) on day 100000", x.move(0, 1, LEAST), -1);
    }

    private static void moveTwelveAtMost() {
        sentence("7", "Answers its number; NONE when there are 12");
        PaperStates x = agreed(100, 0, 50);
        addAgreed(x, 100, 0, 50);
        for (int m = 0; m < 12; m++) {
            due("a refused move before " + m, x.move(0, 0, 10), -1);
            due("move " + m, x.move(m % 2, 1, 10), m);
        }
        due("move 12 of notice 0", x.move(0, 1, 10), -1);
        due("move 12 of notice 1", x.move(1, 1, 10), -1);
        due("moveState(11)", x.moveState(11), 0);
        due("moveState(12)", x.moveState(12), -1);
        due("left(0)", x.left(0), 94);
        due("left(1)", x.left(1), 94);
    }

    private static void moveTwelveOfAnyState() {
        sentence("7", "NONE when there are 12, cancelled and returned ones too");
        PaperStates x = withTwelve();
        for (int m = 0; m < 6; m++) {
            x.event(m, CANCEL, 0);
            x.event(m + 6, TAKE, 0);
            x.event(m + 6, RETURN, 0);
        }
        due("left(0)", x.left(0), 100);
        due("move 12", x.move(0, 1, 10), -1);
    }

    private static void moveNotAgreed() {
        sentence("7", "-2 when the notice is not agreed");
        PaperStates x = new PaperStates();
        x.notice(10, 0, 50);
        due("no country", x.move(0, 1, 10), -2);
        x.country(0, 0, 2);
        due("one asked", x.move(0, 1, 10), -2);
        x.day(2);
        due("on its last day", x.move(0, 1, 10), -2);
        x.day(3);
        due("agreed silently", x.move(0, 1, 10), 0);
        x.country(0, 1, 2);
        due("one more asked", x.move(0, 1, 10), -2);
        x.says(0, 1, false);
        due("one refused", x.move(0, 1, 10), -2);
        due("moveState(1)", x.moveState(1), -1);
        due("left(0)", x.left(0), 9);
    }

    private static void moveTooManyGrams() {
        sentence("7", "-3 when not so many grams are left");
        PaperStates x = agreed(10, 0, 50);
        due("11 of 10", x.move(0, 11, 10), -3);
        due("6 of 10", x.move(0, 6, 10), 0);
        due("5 of 4", x.move(0, 5, 10), -3);
        due("4 of 4", x.move(0, 4, 10), 1);
        due("1 of 0", x.move(0, 1, 10), -3);
        due("moveState(2)", x.moveState(2), -1);
        PaperStates y = agreed(HIGHEST_GRAMS, 0, 50);
        due("1000000001 of 1000000000", y.move(0, HIGHEST_GRAMS + 1, 10), -3);
        due("1000000000 of 1000000000", y.move(0, HIGHEST_GRAMS, 10), 0);
    }

    private static void moveGramsThatWouldWrap() {
        sentence("7", "-3 when not so many grams are left: sums that would wrap around");
        PaperStates x = agreed(10, 0, 50);
        x.move(0, 9, 10);
        due("most", x.move(0, Long.MAX_VALUE, 10), -3);
        due("most - 8", x.move(0, Long.MAX_VALUE - 8, 10), -3);
        due("2^32 + 1", x.move(0, CUT_TO_ONE, 10), -3);
        due("left(0)", x.left(0), 1);
        due("1", x.move(0, 1, 10), 1);
    }

    private static void moveGramsThatCameBack() {
        sentence("7", "-3 when not so many grams are left: of returned and cancelled moves they are");
        PaperStates x = agreed(10, 0, 50);
        x.move(0, 4, 3);
        x.move(0, 6, 3);
        x.day(3);
        due("1 of 0", x.move(0, 1, 10), -3);
        x.event(0, CANCEL, 0);
        due("5 of 4", x.move(0, 5, 10), -3);
        due("4 of 4", x.move(0, 4, 10), 2);
        x.event(1, TAKE, 0);
        due("1 of 0 when taken", x.move(0, 1, 10), -3);
        x.event(1, RETURN, 0);
        due("7 of 6", x.move(0, 7, 10), -3);
        due("6 of 6", x.move(0, 6, 10), 3);
    }

    private static void moveNoneBeforeNotAgreed() {
        sentence("7", "(in this order): NONE before -2");
        PaperStates x = withTwelve();
        x.notice(10, 20, 50);
        due("12 moves", x.move(1, 1, 25), -1);
        PaperStates y = new PaperStates();
        y.notice(10, 20, 50);
        due("no grams", y.move(0, 0, 25), -1);
        due("before its first day", y.move(0, 1, 19), -1);
        due("behind its last day", y.move(0, 1, 51), -1);
        y.day(40);
        due("2 days behind today", y.move(0, 1, 42), -1);
        due("3 days behind today", y.move(0, 1, 43), -2);
        y.day(51);
        due("lapsed: its days are over", y.move(0, 1, 54), -1);
    }

    private static void moveNoneBeforeTooMany() {
        sentence("7", "(in this order): NONE before -3");
        PaperStates x = withTwelve();
        due("12 moves", x.move(0, 1000, 25), -1);
        PaperStates y = agreed(10, 20, 50);
        due("before its first day", y.move(0, 11, 19), -1);
        due("behind its last day", y.move(0, 11, 51), -1);
        due("on such a day", y.move(0, 11, 20), -3);
        y.day(40);
        due("2 days behind today", y.move(0, 11, 42), -1);
        due("of no such notice", y.move(1, 11, 43), -1);
    }

    private static void moveNotAgreedBeforeTooMany() {
        sentence("7", "(in this order): -2 before -3");
        PaperStates x = new PaperStates();
        x.notice(10, 0, 50);
        due("no country, 11 of 10", x.move(0, 11, 10), -2);
        due("no country, most", x.move(0, Long.MAX_VALUE, 10), -2);
        x.country(0, 0, 5);
        x.says(0, 0, true);
        due("agreed, 11 of 10", x.move(0, 11, 10), -3);
        x.country(0, 1, 5);
        x.says(0, 1, false);
        due("refused, 11 of 10", x.move(0, 11, 10), -2);
    }

    private static void moveStateWithoutMove() {
        sentence("8", "NONE when there is none such");
        due("moveState(0) on a new object", new PaperStates().moveState(0), -1);
        PaperStates x = agreed(10, 0, 50);
        due("moveState(0) without moves", x.moveState(0), -1);
        x.move(0, 1, 3);
        int[] none = {-1, 1, 11, 12, LEAST, MOST};
        for (int m : none) {
            due("moveState(" + m + ")", x.moveState(m), -1);
        }
        due("moveState(0)", x.moveState(0), 0);
    }

    private static void moveStateOfTheLast() {
        sentence("8", "NONE when there is none such: all places taken");
        PaperStates x = withTwelve();
        x.event(11, CANCEL, 0);
        due("moveState(11)", x.moveState(11), 5);
        due("moveState(10)", x.moveState(10), 0);
        due("moveState(12)", x.moveState(12), -1);
    }

    private static void moveStateOfEach() {
        sentence("8 (Terms)", "0 told, 1 taken, 2 received, 3 recovered, 4 returned, 5 cancelled");
        PaperStates x = inAllStates();
        for (int m = 0; m < 6; m++) {
            due("the one that is " + STATE_NAMES[m], x.moveState(m), m);
        }
    }

    private static void rightPersons() {
        sentence("9 (Terms)", "Persons 0 .. 7");
        PaperStates x = new PaperStates();
        int[] none = {-1, 8, LEAST, MOST};
        for (int p : none) {
            due("right(" + p + ", 0, true)", x.right(p, 0, true), false);
            due("right(" + p + ", 4, false)", x.right(p, 4, false), false);
        }
        due("right(0, 0, true)", x.right(0, 0, true), true);
        due("right(7, 4, true)", x.right(7, 4, true), true);
        due("may(0, 0)", x.may(0, 0), true);
        due("may(7, 4)", x.may(7, 4), true);
    }

    private static void rightEvents() {
        sentence("9 (Terms)", "EVENTS 0 .. 4");
        PaperStates x = new PaperStates();
        int[] none = {-1, 5, LEAST, MOST};
        for (int e : none) {
            for (int p = 0; p < 8; p++) {
                due("right(" + p + ", " + e + ", true)", x.right(p, e, true), false);
            }
        }
        for (int p = 0; p < 8; p++) {
            for (int e = 0; e < 5; e++) {
                due("may(" + p + ", " + e + ") behind refused ones", x.may(p, e), false);
            }
        }
        due("right(3, 0, true)", x.right(3, 0, true), true);
        due("right(3, 4, true)", x.right(3, 4, true), true);
    }

    private static void rightOnAndOff() {
        sentence("9", "A person has a right to an event, or not. Answers true");
        PaperStates x = new PaperStates();
        due("off when there is none", x.right(2, 3, false), true);
        due("may then", x.may(2, 3), false);
        due("on", x.right(2, 3, true), true);
        due("on again", x.right(2, 3, true), true);
        due("may when on", x.may(2, 3), true);
        due("off", x.right(2, 3, false), true);
        due("may when off", x.may(2, 3), false);
        due("off again", x.right(2, 3, false), true);
    }

    private static void rightOfOnePairAlone() {
        sentence("9", "a right to an event: of that person to that event alone");
        for (int p = 0; p < 8; p++) {
            for (int e = 0; e < 5; e++) {
                PaperStates x = new PaperStates();
                x.right(p, e, true);
                for (int i = 0; i < 40; i++) {
                    due("may(" + i / 5 + ", " + i % 5 + ") by right(" + p + ", " + e + ")",
                        x.may(i / 5, i % 5), i == p * 5 + e);
                }
            }
        }
    }

    private static void mayPersons() {
        sentence("10", "Whether a person has a right: none such");
        PaperStates x = new PaperStates();
        for (int i = 0; i < 40; i++) {
            x.right(i / 5, i % 5, true);
        }
        int[] none = {-1, 8, LEAST, MOST};
        for (int p : none) {
            for (int e = 0; e < 5; e++) {
                due("may(" + p + ", " + e + ")", x.may(p, e), false);
            }
        }
        due("may(0, 0)", x.may(0, 0), true);
        due("may(7, 0)", x.may(7, 0), true);
    }

    private static void mayEvents() {
        sentence("10", "Whether a person has a right to an event: none such");
        PaperStates x = new PaperStates();
        for (int i = 0; i < 40; i++) {
            x.right(i / 5, i % 5, true);
        }
        int[] none = {-1, 5, LEAST, MOST};
        for (int e : none) {
            for (int p = 0; p < 8; p++) {
                due("may(" + p + ", " + e + ")", x.may(p, e), false);
            }
            due("may(-1, " + e + ")", x.may(-1, e), false);
            due("may(8, " + e + ")", x.may(8, e), false);
        }
        due("may(3, 0)", x.may(3, 0), true);
        due("may(3, 4)", x.may(3, 4), true);
    }

    private static void eventWithoutMove() {
        sentence("11 (Terms)", "there is none such (-1): the move");
        due("event(0, 0, 0) on a new object", new PaperStates().event(0, 0, 0), -1);
        PaperStates x = agreed(100, 0, 50);
        due("event(0, cancel, 0) without moves", x.event(0, CANCEL, 0), -1);
        x.move(0, 1, 3);
        int[] none = {-1, 1, 11, 12, LEAST, MOST};
        for (int m : none) {
            due("event(" + m + ", cancel, 0)", x.event(m, CANCEL, 0), -1);
        }
        due("event(0, cancel, 0)", x.event(0, CANCEL, 0), 5);
        PaperStates y = withTwelve();
        due("event(12, cancel, 0) of twelve", y.event(12, CANCEL, 0), -1);
        due("event(11, cancel, 0) of twelve", y.event(11, CANCEL, 0), 5);
    }

    private static void eventNames() {
        sentence("11 (Terms)", "there is none such (-1): the event");
        PaperStates x = inAllStates();
        int[] none = {-1, 5, LEAST, MOST};
        for (int e : none) {
            for (int m = 0; m < 6; m++) {
                due("event(" + m + ", " + e + ", 0)", x.event(m, e, 0), -1);
                due("moveState(" + m + ")", x.moveState(m), m);
            }
        }
    }

    private static void eventPersons() {
        sentence("11 (Terms)", "there is none such (-1): the person");
        PaperStates x = inAllStates();
        x.right(7, CANCEL, true);
        int[] none = {-1, 8, LEAST, MOST};
        for (int p : none) {
            for (int e = 0; e < 5; e++) {
                due("event(0, " + e + ", " + p + ")", x.event(0, e, p), -1);
            }
        }
        due("moveState(0)", x.moveState(0), 0);
        due("event(0, cancel, 7)", x.event(0, CANCEL, 7), 5);
    }

    private static void eventNoneBeforeNoRight() {
        sentence("11 (Terms)", "looked at in this order: -1 before -2");
        PaperStates x = inAllStates();
        due("a move that is not there, by one without rights", x.event(6, TAKE, 5), -1);
        due("an event that is not there, by one without rights", x.event(0, 5, 5), -1);
        due("one that is not there", x.event(0, TAKE, 8), -1);
        due("all there, by one without rights", x.event(0, TAKE, 5), -2);
    }

    private static void eventRightToThatEvent() {
        sentence("11 (Terms)", "the person has no right to it (-2)");
        for (int e = 0; e < 5; e++) {
            PaperStates x = inAllStates();
            for (int other = 0; other < 5; other++) {
                x.right(6, other, other != e);
            }
            int from = e == TAKE || e == CANCEL ? 0 : e == RECOVER ? 2 : 1;
            x.mark(2, 0, 1);
            due(EVENT_NAMES[e] + " by one with all other rights", x.event(from, e, 6), -2);
            due("moveState(" + from + ")", x.moveState(from), from);
            x.right(6, e, true);
            x.right(0, e, false);
            due(EVENT_NAMES[e] + " by one who lost the right", x.event(from, e, 0), -2);
            due(EVENT_NAMES[e] + " by one who has it", x.event(from, e, 6) >= 0, true);
        }
    }

    private static void eventNoRightBeforeState() {
        sentence("11 (Terms)", "looked at in this order: -2 before -3, -4 and -5");
        PaperStates x = inAllStates();
        x.move(0, 10, 50);
        due("before -3", x.event(5, TAKE, 5), -2);
        due("before -4", x.event(6, TAKE, 5), -2);
        due("before -5", x.event(2, RECOVER, 5), -2);
        due("-3", x.event(5, TAKE, 0), -3);
        due("-4", x.event(6, TAKE, 0), -4);
        due("-5", x.event(2, RECOVER, 0), -5);
    }

    private static void eventTable() {
        sentence("11 (Terms)", "the states that they lead from and to; else (-3)");
        int[][] to = {
            {1, -3, -3, -3, -3, -3},
            {-3, 2, -3, -3, -3, -3},
            {-3, -3, 3, -3, -3, -3},
            {-3, 4, 4, -3, -3, -3},
            {5, -3, -3, -3, -3, -3},
        };
        for (int e = 0; e < 5; e++) {
            for (int s = 0; s < 6; s++) {
                PaperStates x = inAllStates();
                x.mark(2, 0, 1);
                due(EVENT_NAMES[e] + " when " + STATE_NAMES[s], x.event(s, e, 0), to[e][s]);
                due("moveState then", x.moveState(s), to[e][s] < 0 ? s : to[e][s]);
            }
        }
    }

    private static void eventStateBeforeNotYet() {
        sentence("11 (Terms)", "looked at in this order: -3 before -4");
        PaperStates x = inAllStates();
        x.country(0, 1, 9);
        x.says(0, 1, false);
        due("take when told", x.event(0, TAKE, 0), -4);
        for (int m = 1; m < 6; m++) {
            due("take when " + STATE_NAMES[m], x.event(m, TAKE, 0), -3);
        }
        PaperStates y = agreed(10, 0, 50);
        y.move(0, 1, 30);
        y.event(0, CANCEL, 0);
        due("take when cancelled, before its day", y.event(0, TAKE, 0), -3);
    }

    private static void eventStateBeforeNoMark() {
        sentence("11 (Terms)", "looked at in this order: -3 before -5");
        PaperStates x = inAllStates();
        for (int m = 0; m < 6; m++) {
            due("recover when " + STATE_NAMES[m] + ", not marked", x.event(m, RECOVER, 0), m == 2 ? -5 : -3);
        }
    }

    private static void eventTakeOnTheDay() {
        sentence("11 (Terms)", "it is take, and today is before the move's day (-4)");
        PaperStates x = agreed(10, 0, 50);
        x.move(0, 1, 30);
        due("on day 0", x.event(0, TAKE, 0), -4);
        x.day(29);
        due("on day 29", x.event(0, TAKE, 0), -4);
        due("moveState(0)", x.moveState(0), 0);
        x.day(30);
        due("on day 30", x.event(0, TAKE, 0), 1);
        PaperStates y = agreed(10, 0, 50);
        y.move(0, 1, 30);
        y.day(31);
        due("on day 31", y.event(0, TAKE, 0), 1);
    }

    private static void eventTakeAgreed() {
        sentence("11 (Terms)", "it is take, and its notice is not agreed (-4)");
        PaperStates x = agreed(10, 0, 50);
        addAgreed(x, 10, 0, 50);
        x.move(0, 1, 3);
        x.move(1, 1, 3);
        x.day(3);
        x.country(0, 1, 4);
        due("one more asked", x.event(0, TAKE, 0), -4);
        due("of another notice", x.event(1, TAKE, 0), 1);
        x.day(7);
        due("on its last day", x.event(0, TAKE, 0), -4);
        x.day(8);
        due("agreed silently", x.event(0, TAKE, 0), 1);
        PaperStates y = agreed(10, 0, 50);
        y.move(0, 1, 3);
        y.country(0, 1, 4);
        y.says(0, 1, false);
        y.day(3);
        due("one refused", y.event(0, TAKE, 0), -4);
        due("moveState(0)", y.moveState(0), 0);
    }

    private static void eventTakeOnTheNoticesLastDay() {
        sentence("11 (Terms)", "its notice is not agreed (-4): lapsed");
        PaperStates x = agreed(10, 0, 50);
        x.move(0, 1, 50);
        x.move(0, 1, 50);
        x.day(50);
        due("on its last day", x.event(0, TAKE, 0), 1);
        x.day(51);
        due("a day behind it", x.event(1, TAKE, 0), -4);
        due("moveState(1)", x.moveState(1), 0);
    }

    private static void eventOthersNeedNoDay() {
        sentence("11 (Terms)", "it is take (-4): cancel may come before the move's day");
        PaperStates x = agreed(10, 0, 50);
        x.move(0, 1, 30);
        due("cancel on day 0", x.event(0, CANCEL, 0), 5);
    }

    private static void eventOthersNeedNoAgreement() {
        sentence("11 (Terms)", "it is take (-4): the others go on without the notice's agreement");
        PaperStates x = inAllStates();
        x.country(0, 1, 9);
        x.says(0, 1, false);
        due("receive", x.event(1, RECEIVE, 0), 2);
        due("mark", x.mark(2, 0, 1), true);
        due("recover", x.event(2, RECOVER, 0), 3);
        due("return", x.event(1, RETURN, 0), 4);
        due("cancel", x.event(0, CANCEL, 0), 5);
        PaperStates y = agreed(10, 0, 5);
        y.move(0, 1, 3);
        y.move(0, 1, 3);
        y.day(3);
        y.event(0, TAKE, 0);
        y.day(6);
        due("receive when lapsed", y.event(0, RECEIVE, 0), 2);
        due("mark when lapsed", y.mark(0, 0, 1), true);
        due("recover when lapsed", y.event(0, RECOVER, 0), 3);
        due("cancel when lapsed", y.event(1, CANCEL, 0), 5);
    }

    private static void eventRecoverMarked() {
        sentence("11 (Terms)", "it is recover, and the move has no MARK (-5)");
        PaperStates x = inAllStates();
        due("not marked", x.event(2, RECOVER, 0), -5);
        due("moveState(2)", x.moveState(2), 2);
        x.mark(2, 0, 1);
        due("marked", x.event(2, RECOVER, 0), 3);
        PaperStates y = inAllStates();
        due("return needs no mark", y.event(2, RETURN, 0), 4);
    }

    private static void eventSinceToday() {
        sentence("11 (Terms)", "Else the move has the new state, since today");
        PaperStates x = agreed(10, 0, 100000);
        x.move(0, 1, 3);
        x.limit(10);
        x.day(3);
        x.event(0, TAKE, 0);
        x.day(90);
        x.event(0, RECEIVE, 0);
        x.day(100);
        due("late(0) 10 days behind it", x.late(0), -1);
        due("receive again", x.event(0, RECEIVE, 0), -3);
        x.day(101);
        due("late(0) 11 days behind it", x.late(0), 0);
    }

    private static void markWithoutMove() {
        sentence("12", "false when these are not such: the move");
        due("mark(0, 0, 1) on a new object", new PaperStates().mark(0, 0, 1), false);
        PaperStates x = inAllStates();
        int[] none = {-1, 6, 11, 12, LEAST, MOST};
        for (int m : none) {
            due("mark(" + m + ", 0, 1)", x.mark(m, 0, 1), false);
        }
        PaperStates y = withTwelve();
        y.event(11, TAKE, 0);
        y.event(11, RECEIVE, 0);
        due("mark(12, 0, 1) of twelve", y.mark(12, 0, 1), false);
        due("mark(11, 0, 1) of twelve", y.mark(11, 0, 1), true);
    }

    private static void markStates() {
        sentence("12", "mark a move that is received");
        PaperStates x = inAllStates();
        for (int m = 0; m < 6; m++) {
            due("mark when " + STATE_NAMES[m], x.mark(m, 0, 1), m == 2);
        }
    }

    private static void markDifferentPersons() {
        sentence("12", "Two different persons");
        PaperStates x = inAllStates();
        for (int p = 0; p < 8; p++) {
            x.right(p, RECOVER, true);
        }
        for (int p = 0; p < 8; p++) {
            due("mark(2, " + p + ", " + p + ")", x.mark(2, p, p), false);
        }
        due("recover", x.event(2, RECOVER, 0), -5);
        due("mark(2, 7, 0)", x.mark(2, 7, 0), true);
    }

    private static void markPersons() {
        sentence("12", "persons, 0 .. 7: none such");
        PaperStates x = inAllStates();
        for (int p = 0; p < 8; p++) {
            x.right(p, RECOVER, true);
            x.right(p, RETURN, true);
        }
        int[] none = {-1, 8, LEAST, MOST};
        for (int p : none) {
            due("mark(2, 0, " + p + ")", x.mark(2, 0, p), false);
            due("mark(2, " + p + ", 0)", x.mark(2, p, 0), false);
            due("mark(2, " + p + ", " + p + ")", x.mark(2, p, p), false);
        }
        due("recover", x.event(2, RECOVER, 0), -5);
        due("mark(2, 0, 7)", x.mark(2, 0, 7), true);
    }

    private static void markRights() {
        sentence("12", "both with a right to recover");
        PaperStates x = inAllStates();
        for (int e = 0; e < 5; e++) {
            x.right(3, e, e != RECOVER);
            x.right(4, e, e == RECOVER);
        }
        due("the second has none", x.mark(2, 0, 3), false);
        due("the first has none", x.mark(2, 3, 0), false);
        due("both have none", x.mark(2, 3, 5), false);
        x.right(1, RECOVER, false);
        due("one lost it", x.mark(2, 0, 1), false);
        due("recover", x.event(2, RECOVER, 0), -5);
        due("both have that one alone", x.mark(2, 4, 0), true);
        due("recover then", x.event(2, RECOVER, 0), 3);
    }

    private static void markTwice() {
        sentence("12", "false when it is marked");
        PaperStates x = inAllStates();
        x.right(2, RECOVER, true);
        x.right(3, RECOVER, true);
        due("by 0 and 1", x.mark(2, 0, 1), true);
        due("by 0 and 1 again", x.mark(2, 0, 1), false);
        due("by 1 and 0", x.mark(2, 1, 0), false);
        due("by 2 and 3", x.mark(2, 2, 3), false);
        due("recover", x.event(2, RECOVER, 0), 3);
        due("by 2 and 3 when recovered", x.mark(2, 2, 3), false);
    }

    private static void markTooEarly() {
        sentence("12", "a move that is received: one refused before leaves no mark");
        PaperStates x = inAllStates();
        due("mark when told", x.mark(0, 0, 1), false);
        x.event(0, TAKE, 0);
        due("mark when taken", x.mark(0, 0, 1), false);
        x.event(0, RECEIVE, 0);
        due("recover", x.event(0, RECOVER, 0), -5);
        due("mark when received", x.mark(0, 0, 1), true);
        due("recover then", x.event(0, RECOVER, 0), 3);
    }

    private static void markOfOneMoveAlone() {
        sentence("12", "mark a move: that one alone");
        PaperStates x = withTwelve();
        for (int m = 0; m < 12; m++) {
            x.event(m, TAKE, 0);
            x.event(m, RECEIVE, 0);
        }
        due("mark(0, 0, 1)", x.mark(0, 0, 1), true);
        due("mark(11, 0, 1)", x.mark(11, 0, 1), true);
        for (int m = 0; m < 12; m++) {
            due("recover " + m, x.event(m, RECOVER, 1), m == 0 || m == 11 ? 3 : -5);
        }
    }

    private static void limitDays() {
        sentence("16", "The limit becomes 0 .. 1000 days");
        PaperStates x = new PaperStates();
        int[] none = {-1, 1001, LEAST, MOST};
        for (int days : none) {
            due("limit(" + days + ")", x.limit(days), false);
        }
        due("limit(0)", x.limit(0), true);
        due("limit(1000)", x.limit(1000), true);
        due("limit(1000) again", x.limit(1000), true);
    }

    private static void limitOfZero() {
        sentence("16", "The limit becomes 0 days");
        PaperStates x = inAllStates();
        x.limit(0);
        due("late(0) on the day", x.late(0), -1);
        x.day(4);
        due("late(0) a day behind it", x.late(0), 2);
    }

    private static void limitOf1000() {
        sentence("16", "The limit becomes 1000 days");
        PaperStates x = inAllStates();
        x.limit(1000);
        x.day(1003);
        due("late(0) 1000 days behind", x.late(0), -1);
        x.day(1004);
        due("late(0) 1001 days behind", x.late(0), 2);
        x.limit(999);
        due("late(0) by 999", x.late(0), 2);
    }

    private static void limitRefusedStays() {
        sentence("16", "Answers true, or false: a refused one changes nothing");
        PaperStates x = inAllStates();
        x.limit(5);
        x.limit(1001);
        x.limit(-1);
        x.limit(MOST);
        x.limit(LEAST);
        x.day(8);
        due("late(0) 5 days behind", x.late(0), -1);
        x.day(9);
        due("late(0) 6 days behind", x.late(0), 2);
    }

    private static void lateNoneYet() {
        sentence("17", "NONE when there is none such: none there yet");
        int[] any = {0, 1, -1, LEAST, MOST};
        PaperStates x = new PaperStates();
        PaperStates y = inAllStates();
        for (int k : any) {
            due("late(" + k + ") on a new object", x.late(k), -1);
            due("late(" + k + ") with none late", y.late(k), -1);
        }
    }

    private static void lateMoreDaysThanTheLimit() {
        sentence("17", "since more days than the limit");
        PaperStates x = inAllStates();
        x.limit(7);
        x.day(9);
        due("late(0) 6 days behind", x.late(0), -1);
        x.day(10);
        due("late(0) 7 days behind", x.late(0), -1);
        x.day(11);
        due("late(0) 8 days behind", x.late(0), 2);
        x.limit(8);
        due("late(0) by 8", x.late(0), -1);
        x.day(100000);
        due("late(0) on the last day", x.late(0), 2);
    }

    private static void lateReceivedAlone() {
        sentence("17", "move that is received");
        PaperStates x = inAllStates();
        x.limit(0);
        x.day(50);
        due("late(0)", x.late(0), 2);
        due("late(1)", x.late(1), -1);
        x.event(1, RECEIVE, 0);
        due("late(0) with one received today", x.late(0), 2);
        due("late(1) with one received today", x.late(1), -1);
        x.mark(2, 0, 1);
        due("late(0) when marked", x.late(0), 2);
        x.event(2, RECOVER, 0);
        due("late(0) when recovered", x.late(0), -1);
        x.day(51);
        due("late(0) a day later", x.late(0), 1);
        x.event(1, RETURN, 0);
        due("late(0) when returned", x.late(0), -1);
    }

    private static void lateByNumbers() {
        sentence("17", "The k-th move, by numbers");
        PaperStates x = withTwelve();
        int[] inTurn = {9, 4, 11, 0};
        for (int m : inTurn) {
            x.event(m, TAKE, 0);
            x.event(m, RECEIVE, 0);
        }
        x.limit(0);
        x.day(4);
        due("late(0)", x.late(0), 0);
        due("late(1)", x.late(1), 4);
        due("late(2)", x.late(2), 9);
        due("late(3)", x.late(3), 11);
        int[] none = {4, 11, 12, -1, LEAST, MOST};
        for (int k : none) {
            due("late(" + k + ")", x.late(k), -1);
        }
    }

    private static void lateAllTwelve() {
        sentence("17", "NONE when there is none such: all places taken");
        PaperStates x = withTwelve();
        for (int m = 0; m < 12; m++) {
            x.event(m, TAKE, 0);
            x.event(m, RECEIVE, 0);
        }
        x.limit(0);
        x.day(4);
        for (int k = 0; k < 12; k++) {
            due("late(" + k + ")", x.late(k), k);
        }
        due("late(12)", x.late(12), -1);
        due("late(13)", x.late(13), -1);
        due("late(-1)", x.late(-1), -1);
    }

    private static void carrierWithoutMove() {
        sentence("18", "NONE when these are not such: the move");
        due("carrier(0, 0) on a new object", new PaperStates().carrier(0, 0), -1);
        PaperStates x = inAllStates();
        int[] none = {-1, 6, 11, 12, LEAST, MOST};
        for (int m : none) {
            due("carrier(" + m + ", 0)", x.carrier(m, 0), -1);
        }
        PaperStates y = withTwelve();
        y.event(11, TAKE, 0);
        due("carrier(12, 0) of twelve", y.carrier(12, 0), -1);
        due("carrier(11, 0) of twelve", y.carrier(11, 0), 1);
    }

    private static void carrierNames() {
        sentence("18", "one more carrier, 0 .. 99");
        PaperStates x = inAllStates();
        int[] none = {-1, 100, LEAST, MOST};
        for (int c : none) {
            due("carrier(1, " + c + ")", x.carrier(1, c), -1);
        }
        due("back(1, 0)", x.back(1, 0), -1);
        due("carrier(1, 0)", x.carrier(1, 0), 1);
        due("carrier(1, 99)", x.carrier(1, 99), 2);
        for (int c : none) {
            due("carrier(1, " + c + ") behind others", x.carrier(1, c), -1);
        }
        due("back(1, 0) then", x.back(1, 0), 99);
    }

    private static void carrierTakenAlone() {
        sentence("18", "A move that is taken");
        PaperStates x = inAllStates();
        for (int m = 0; m < 6; m++) {
            due("carrier when " + STATE_NAMES[m], x.carrier(m, 5), m == 1 ? 1 : -1);
        }
        x.event(1, RECEIVE, 0);
        due("carrier when it was received then", x.carrier(1, 6), -1);
        due("back(1, 0)", x.back(1, 0), 5);
    }

    private static void carrierAnotherThanItsLatest() {
        sentence("18", "another one than its latest");
        PaperStates x = inAllStates();
        due("0 as the first", x.carrier(1, 0), 1);
        due("0 again", x.carrier(1, 0), -1);
        due("1", x.carrier(1, 1), 2);
        due("1 again", x.carrier(1, 1), -1);
        due("0, which is not the latest", x.carrier(1, 0), 3);
        due("100, refused", x.carrier(1, 100), -1);
        due("0, still the latest", x.carrier(1, 0), -1);
        due("back(1, 3)", x.back(1, 3), -1);
    }

    private static void carrierSixAtMost() {
        sentence("18", "Answers how many it has; NONE when it has 6");
        PaperStates x = inAllStates();
        for (int c = 1; c <= 6; c++) {
            due("carrier " + c, x.carrier(1, c), c);
        }
        due("a seventh", x.carrier(1, 7), -1);
        due("a seventh, as the first", x.carrier(1, 1), -1);
        due("a seventh, as the latest", x.carrier(1, 6), -1);
        due("back(1, 0)", x.back(1, 0), 6);
        due("back(1, 5)", x.back(1, 5), 1);
        due("back(1, 6)", x.back(1, 6), -1);
    }

    private static void carrierOfEachMove() {
        sentence("18", "A move has one more carrier: each its own six");
        PaperStates x = withTwelve();
        for (int m = 0; m < 12; m++) {
            x.event(m, TAKE, 0);
            for (int c = 0; c < 6; c++) {
                due("carrier " + c + " of " + m, x.carrier(m, m * 8 + c), c + 1);
            }
        }
        for (int m = 0; m < 12; m++) {
            for (int k = 0; k < 6; k++) {
                due("back(" + m + ", " + k + ")", x.back(m, k), m * 8 + 5 - k);
            }
        }
    }

    private static void backWithoutMove() {
        sentence("19", "NONE when there is none such: the move");
        due("back(0, 0) on a new object", new PaperStates().back(0, 0), -1);
        PaperStates x = withTwelve();
        x.event(11, TAKE, 0);
        x.carrier(11, 8);
        int[] none = {-1, 12, LEAST, MOST};
        for (int m : none) {
            due("back(" + m + ", 0)", x.back(m, 0), -1);
        }
        due("back(11, 0)", x.back(11, 0), 8);
        due("back(6, 0) of six", inAllStates().back(6, 0), -1);
    }

    private static void backNoneYet() {
        sentence("19", "NONE when there is none such: no carriers yet");
        PaperStates x = inAllStates();
        int[] any = {-1, 0, 1, 5, 6, LEAST, MOST};
        for (int m = 0; m < 6; m++) {
            for (int k : any) {
                due("back(" + m + ", " + k + ")", x.back(m, k), -1);
            }
        }
    }

    private static void backFromTheLatestOn() {
        sentence("19", "The k-th of a move's carriers, from the latest on");
        PaperStates x = inAllStates();
        int[] row = {99, 0, 50, 0, 99, 7};
        int[] none = {-1, LEAST, MOST};
        for (int count = 1; count <= 6; count++) {
            x.carrier(1, row[count - 1]);
            for (int k = 0; k < count; k++) {
                due("back(1, " + k + ") of " + count, x.back(1, k), row[count - 1 - k]);
            }
            due("back(1, " + count + ") of " + count, x.back(1, count), -1);
            for (int k : none) {
                due("back(1, " + k + ") of " + count, x.back(1, k), -1);
            }
        }
    }

    private static void backStays() {
        sentence("19", "a move's carriers: when it is taken no more, too");
        PaperStates x = inAllStates();
        x.carrier(1, 4);
        x.carrier(1, 5);
        x.event(1, RECEIVE, 0);
        due("back(1, 0) when received", x.back(1, 0), 5);
        due("back(1, 1) when received", x.back(1, 1), 4);
        x.event(1, RETURN, 0);
        due("back(1, 0) when returned", x.back(1, 0), 5);
        due("back(1, 2) when returned", x.back(1, 2), -1);
    }
}
