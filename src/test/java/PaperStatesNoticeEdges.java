/**
 * The sentences of promises 1 to 6, 13 to 15 and 20 that name a boundary, each by a test of its own:
 * the last value that is allowed, the first one that is not, nothing there yet, all places taken.
 */
public final class PaperStatesNoticeEdges {
    private static final int LEAST = Integer.MIN_VALUE;
    private static final int MOST = Integer.MAX_VALUE;
    private static final long HIGHEST_GRAMS = 1000000000L;
    private static final long HIGHEST_CENTS = 1000000000L;
    private static final long ALL_CENTS = 10000000000L;
    /** An int's worth of bits cut off leaves 1, so a cut to int would let it pass. */
    private static final long CUT_TO_ONE = 4294967297L;
    private static final int TAKE = 0;
    private static final int RECEIVE = 1;
    private static final int RECOVER = 2;
    private static final int RETURN = 3;
    private static final int CANCEL = 4;

    private static String sentence = "";
    private static int sentences = 0;
    private static int wrong = 0;

    public static void main(String[] args) {
        newObject();
        day();
        notice();
        country();
        says();
        state();
        left();
        bank();
        held();
        print();
        System.out.println(sentences + " sentences on notices, " + wrong + " answers not as due");
        if (wrong != 0) {
            System.exit(1);
        }
    }

    private static void newObject() {
        newHasNoNotices();
        newHasNoMoves();
        newHasNoRights();
        newHasALimitOf365();
        newIsOnDayZero();
    }

    private static void day() {
        dayBeforeToday();
        dayBelowZero();
        dayAbove100000();
        dayMayStay();
        dayCountsNothing();
        dayCountsMoreThanZeroDays();
        dayCountsMoreThan1000Days();
        dayCountsAllPlaces();
        dayCountsOnlyTheAsked();
        dayCountsUpToTheLastDay();
        dayRefusedCountsNone();
    }

    private static void notice() {
        noticeFewestGrams();
        noticeMostGrams();
        noticeFirstDay();
        noticeToNotBeforeFrom();
        noticeLastDay();
        noticeInThePast();
        noticeSixAtMost();
        noticeSixOfAnyState();
    }

    private static void country() {
        countryWithoutNotice();
        countryOfTheLastNotice();
        countryNames();
        countryDays();
        countryAlready();
        countryAllSix();
        countryOfEachNotice();
        countryAskedOnTheDayItWasTold();
    }

    private static void says() {
        saysWithoutNotice();
        saysNames();
        saysNotTold();
        saysTwice();
        saysOnTheLastDay();
        saysWhenSilent();
        saysOnItsOwnNotice();
    }

    private static void state() {
        stateWithoutNotice();
        stateOfTheLastNotice();
        stateWithoutCountry();
        stateAllAgree();
        stateSomeRefused();
        stateLapsedBehindItsLastDay();
        stateRefusedBeforeLapsed();
        stateLapsedBeforeAgreed();
        stateNeverLapsesOn100000();
    }

    private static void left() {
        leftWithoutNotice();
        leftOfAll();
        leftOfNone();
        leftByMoveState();
        leftOfItsOwnMoves();
    }

    private static void bank() {
        bankWithoutNotice();
        bankFewestCents();
        bankMostCents();
        bankInAll();
        bankInAllByOne();
        bankWrapAround();
        bankOfEachNotice();
    }

    private static void held() {
        heldWithoutNotice();
        heldWithoutCents();
        heldUntilRecovered();
        heldOfNone();
        heldUp();
        heldEven();
        heldOfTheMost();
        heldOfItsOwnMoves();
    }

    private static void print() {
        printWithoutNotice();
        printBytes();
        printShortest();
        printLongest();
        printStates();
        printLetters();
        printItsOwnMoves();
        printNumbersOfTwoDigits();
    }

    private static void sentence(String promise, String text) {
        sentence = "Promise " + promise + ": " + text;
        sentences++;
    }

    private static void due(String call, long got, long want) {
        if (got != want) {
            wrong++;
            System.out.println(sentence + ": " + call + " answered " + got + ", due is " + want);
        }
    }

    private static void due(String call, boolean got, boolean want) {
        due(call, got ? 1 : 0, want ? 1 : 0);
    }

    /** Reads one byte behind the due end, and so stays within an object's 512 calls. */
    private static void duePaper(PaperStates x, int notice, String want) {
        for (int i = 0; i < want.length(); i++) {
            due("byte " + i + " of '" + want + "'", x.print(notice, i), want.charAt(i));
        }
        due("the byte behind '" + want + "'", x.print(notice, want.length()), -1);
    }

    private static void addAgreed(PaperStates x, long grams, int from, int to) {
        int n = x.notice(grams, from, to);
        x.country(n, 0, 0);
        x.says(n, 0, true);
    }

    private static PaperStates withNotices(int count) {
        PaperStates x = new PaperStates();
        for (int n = 0; n < count; n++) {
            x.notice(10 + n, 0, 100);
        }
        return x;
    }

    /** Notice 0, agreed, of so many grams for all days, and persons 0 and 1 with all rights. */
    private static PaperStates agreed(long grams) {
        PaperStates x = new PaperStates();
        addAgreed(x, grams, 0, 100000);
        for (int e = 0; e < 5; e++) {
            x.right(0, e, true);
            x.right(1, e, true);
        }
        return x;
    }

    /** A move that is told goes on to recovered. */
    private static void recover(PaperStates x, int move) {
        x.event(move, TAKE, 0);
        x.event(move, RECEIVE, 0);
        x.mark(move, 0, 1);
        due("event(" + move + ", recover)", x.event(move, RECOVER, 0), 3);
    }

    /** Six moves of 10 grams of notice 0, each in the state that is its number. */
    private static PaperStates inAllStates(long grams) {
        PaperStates x = agreed(grams);
        for (int m = 0; m < 6; m++) {
            x.move(0, 10, 3);
        }
        x.day(3);
        x.event(1, TAKE, 0);
        x.event(2, TAKE, 0);
        x.event(2, RECEIVE, 0);
        recover(x, 3);
        x.event(4, TAKE, 0);
        x.event(4, RETURN, 0);
        x.event(5, CANCEL, 0);
        return x;
    }

    private static void newHasNoNotices() {
        sentence("1", "No notices");
        PaperStates x = new PaperStates();
        due("state(0)", x.state(0), -1);
        due("left(0)", x.left(0), -1);
        due("held(0)", x.held(0), -1);
        due("print(0, 0)", x.print(0, 0), -1);
        due("country(0, 0, 0)", x.country(0, 0, 0), false);
        due("says(0, 0, true)", x.says(0, 0, true), false);
        due("bank(0, 1)", x.bank(0, 1), false);
        due("move(0, 1, 3)", x.move(0, 1, 3), -1);
        due("the first notice's number", x.notice(1, 0, 0), 0);
    }

    private static void newHasNoMoves() {
        sentence("1", "no moves");
        PaperStates x = agreed(10);
        due("moveState(0)", x.moveState(0), -1);
        due("event(0, 0, 0)", x.event(0, 0, 0), -1);
        due("mark(0, 0, 1)", x.mark(0, 0, 1), false);
        due("late(0)", x.late(0), -1);
        due("carrier(0, 0)", x.carrier(0, 0), -1);
        due("back(0, 0)", x.back(0, 0), -1);
        due("left(0)", x.left(0), 10);
        due("the first move's number", x.move(0, 1, 3), 0);
    }

    private static void newHasNoRights() {
        sentence("1", "no rights");
        PaperStates x = new PaperStates();
        for (int p = 0; p < 8; p++) {
            for (int e = 0; e < 5; e++) {
                due("may(" + p + ", " + e + ")", x.may(p, e), false);
            }
        }
    }

    private static void newHasALimitOf365() {
        sentence("1", "the limit for recovering is 365 days");
        PaperStates x = inAllStates(60);
        x.day(3 + 365);
        due("late(0) behind 365 days", x.late(0), -1);
        x.day(3 + 366);
        due("late(0) behind 366 days", x.late(0), 2);
    }

    private static void newIsOnDayZero() {
        sentence("1 (Terms)", "TODAY is 0 at first");
        PaperStates x = agreed(10);
        due("day(-1)", x.day(-1), -1);
        due("move(0, 1, 2)", x.move(0, 1, 2), -1);
        due("move(0, 1, 3)", x.move(0, 1, 3), 0);
        x.country(0, 1, 0);
        due("day(0)", x.day(0), 0);
        due("day(1)", x.day(1), 1);
    }

    private static void dayBeforeToday() {
        sentence("2", "NONE when it is before today");
        PaperStates x = new PaperStates();
        due("day(7)", x.day(7), 0);
        due("day(6)", x.day(6), -1);
        due("day(0)", x.day(0), -1);
        due("day(least)", x.day(LEAST), -1);
        due("day(7) again", x.day(7), 0);
        due("day(8)", x.day(8), 0);
        due("day(7) behind 8", x.day(7), -1);
    }

    private static void dayBelowZero() {
        sentence("2 (Terms)", "TODAY is a day 0 ..");
        PaperStates x = new PaperStates();
        due("day(-1)", x.day(-1), -1);
        due("day(least)", x.day(LEAST), -1);
        due("day(0)", x.day(0), 0);
    }

    private static void dayAbove100000() {
        sentence("2", "NONE when it is above 100000");
        PaperStates x = new PaperStates();
        due("day(100001)", x.day(100001), -1);
        due("day(most)", x.day(MOST), -1);
        due("day(100000)", x.day(100000), 0);
        due("day(100001) on the last", x.day(100001), -1);
        due("day(most) on the last", x.day(MOST), -1);
        due("day(99999) on the last", x.day(99999), -1);
        due("day(100000) on the last", x.day(100000), 0);
    }

    private static void dayMayStay() {
        sentence("2 (Terms)", "a day that never falls");
        PaperStates x = withNotices(1);
        x.day(5);
        x.country(0, 0, 0);
        due("day(5) on day 5", x.day(5), 0);
        due("state(0) on day 5", x.state(0), 0);
        due("day(6)", x.day(6), 1);
        due("day(6) on day 6", x.day(6), 0);
    }

    private static void dayCountsNothing() {
        sentence("2", "Answers how many countries agreed silently: none there yet");
        due("day(1000) without notices", new PaperStates().day(1000), 0);
        due("day(1000) without countries", withNotices(6).day(1000), 0);
    }

    private static void dayCountsMoreThanZeroDays() {
        sentence("2 (Terms)", "as soon as today is more than its days behind: 0 days");
        PaperStates x = withNotices(1);
        x.country(0, 0, 0);
        x.country(0, 1, 1);
        due("day(0)", x.day(0), 0);
        due("day(1)", x.day(1), 1);
        due("day(2)", x.day(2), 1);
        due("day(3)", x.day(3), 0);
    }

    private static void dayCountsMoreThan1000Days() {
        sentence("2 (Terms)", "as soon as today is more than its days behind: 1000 days");
        PaperStates x = new PaperStates();
        x.notice(1, 0, 100000);
        x.day(500);
        x.country(0, 3, 1000);
        due("day(1500)", x.day(1500), 0);
        due("state(0) on day 1500", x.state(0), 0);
        due("day(1501)", x.day(1501), 1);
        due("state(0) on day 1501", x.state(0), 1);
    }

    private static void dayCountsAllPlaces() {
        sentence("2", "Answers how many countries agreed silently by that: all places taken");
        PaperStates x = withNotices(6);
        for (int n = 0; n < 6; n++) {
            for (int c = 0; c < 6; c++) {
                x.country(n, c, 1000);
            }
        }
        due("day(1000)", x.day(1000), 0);
        due("day(1001)", x.day(1001), 36);
        due("day(1002)", x.day(1002), 0);
    }

    private static void dayCountsOnlyTheAsked() {
        sentence("2 (Terms)", "one that is still asked agrees silently");
        PaperStates x = withNotices(2);
        x.country(0, 0, 2);
        x.country(0, 1, 2);
        x.country(1, 0, 2);
        x.country(1, 1, 2);
        x.says(0, 0, true);
        x.says(1, 0, false);
        due("day(3)", x.day(3), 2);
        due("state(0)", x.state(0), 1);
        due("state(1)", x.state(1), 2);
    }

    private static void dayCountsUpToTheLastDay() {
        sentence("2", "Today becomes a day: the last one");
        PaperStates x = new PaperStates();
        x.notice(1, 0, 100000);
        x.notice(1, 0, 100000);
        x.day(98999);
        x.country(0, 0, 1000);
        x.day(99000);
        x.country(1, 0, 1000);
        x.day(99999);
        x.country(0, 1, 0);
        due("day(100000)", x.day(100000), 2);
        due("state(0)", x.state(0), 1);
        due("state(1), asked 1000 days before the last", x.state(1), 0);
        x.country(1, 1, 0);
        due("day(100000) again", x.day(100000), 0);
        due("day(100001)", x.day(100001), -1);
        due("state(1)", x.state(1), 0);
        due("says(1, 1, true)", x.says(1, 1, true), true);
    }

    private static void dayRefusedCountsNone() {
        sentence("2", "NONE, and no country agrees by it");
        PaperStates x = withNotices(1);
        x.country(0, 0, 3);
        due("day(100001)", x.day(100001), -1);
        due("day(-1)", x.day(-1), -1);
        due("state(0)", x.state(0), 0);
        due("day(3)", x.day(3), 0);
        due("day(4)", x.day(4), 1);
    }

    private static void noticeFewestGrams() {
        sentence("3", "of 1 .. grams");
        PaperStates x = new PaperStates();
        due("notice(0, 0, 1)", x.notice(0, 0, 1), -1);
        due("notice(-1, 0, 1)", x.notice(-1, 0, 1), -1);
        due("notice(least, 0, 1)", x.notice(Long.MIN_VALUE, 0, 1), -1);
        due("notice(2^32 times -1, plus 1)", x.notice(1 - 4294967296L, 0, 1), -1);
        due("state(0)", x.state(0), -1);
        due("notice(1, 0, 1)", x.notice(1, 0, 1), 0);
        due("left(0)", x.left(0), 1);
    }

    private static void noticeMostGrams() {
        sentence("3", "of .. 1000000000 grams");
        PaperStates x = new PaperStates();
        due("notice(1000000001, 0, 1)", x.notice(HIGHEST_GRAMS + 1, 0, 1), -1);
        due("notice(2^32 + 1, 0, 1)", x.notice(CUT_TO_ONE, 0, 1), -1);
        due("notice(most, 0, 1)", x.notice(Long.MAX_VALUE, 0, 1), -1);
        due("state(0)", x.state(0), -1);
        due("notice(1000000000, 0, 1)", x.notice(HIGHEST_GRAMS, 0, 1), 0);
        due("left(0)", x.left(0), HIGHEST_GRAMS);
    }

    private static void noticeFirstDay() {
        sentence("3", "from a day 0 ..");
        PaperStates x = new PaperStates();
        due("notice(1, -1, 5)", x.notice(1, -1, 5), -1);
        due("notice(1, -1, -1)", x.notice(1, -1, -1), -1);
        due("notice(1, least, 5)", x.notice(1, LEAST, 5), -1);
        due("notice(1, least, most)", x.notice(1, LEAST, MOST), -1);
        due("notice(1, least, least)", x.notice(1, LEAST, LEAST), -1);
        due("notice(1, 0, 5)", x.notice(1, 0, 5), 0);
        duePaper(x, 0, "0 1 0 5 0");
    }

    private static void noticeToNotBeforeFrom() {
        sentence("3", "to one not before it");
        PaperStates x = new PaperStates();
        due("notice(1, 5, 4)", x.notice(1, 5, 4), -1);
        due("notice(1, 1, 0)", x.notice(1, 1, 0), -1);
        due("notice(1, 0, -1)", x.notice(1, 0, -1), -1);
        due("notice(1, 0, least)", x.notice(1, 0, LEAST), -1);
        due("notice(1, 100000, 99999)", x.notice(1, 100000, 99999), -1);
        due("notice(1, most, 5)", x.notice(1, MOST, 5), -1);
        due("notice(1, 5, 5)", x.notice(1, 5, 5), 0);
        due("notice(1, 0, 0)", x.notice(1, 0, 0), 1);
        due("notice(1, 5, 6)", x.notice(1, 5, 6), 2);
    }

    private static void noticeLastDay() {
        sentence("3", "to a day .. 100000");
        PaperStates x = new PaperStates();
        due("notice(1, 0, 100001)", x.notice(1, 0, 100001), -1);
        due("notice(1, 100000, 100001)", x.notice(1, 100000, 100001), -1);
        due("notice(1, 100001, 100001)", x.notice(1, 100001, 100001), -1);
        due("notice(1, 0, most)", x.notice(1, 0, MOST), -1);
        due("notice(1, most, most)", x.notice(1, MOST, MOST), -1);
        due("notice(1, 0, 100000)", x.notice(1, 0, 100000), 0);
        due("notice(1, 100000, 100000)", x.notice(1, 100000, 100000), 1);
    }

    private static void noticeInThePast() {
        sentence("3", "from a day to one: both may be before today");
        PaperStates x = new PaperStates();
        x.day(100000);
        due("notice(1, 0, 0)", x.notice(1, 0, 0), 0);
        due("state(0)", x.state(0), 3);
        due("notice(1, 100000, 100000)", x.notice(1, 100000, 100000), 1);
        due("state(1)", x.state(1), 0);
    }

    private static void noticeSixAtMost() {
        sentence("3", "Answers its number; NONE when there are 6");
        PaperStates x = new PaperStates();
        for (int n = 0; n < 6; n++) {
            due("a refused notice before " + n, x.notice(0, 0, 1), -1);
            due("notice " + n, x.notice(n + 1, 0, 1), n);
        }
        due("notice 6", x.notice(1, 0, 1), -1);
        due("notice 6 again", x.notice(1, 0, 1), -1);
        due("notice 6 of wrong grams", x.notice(0, 0, 1), -1);
        due("state(6)", x.state(6), -1);
        for (int n = 0; n < 6; n++) {
            due("left(" + n + ")", x.left(n), n + 1);
        }
    }

    private static void noticeSixOfAnyState() {
        sentence("3", "NONE when there are 6, lapsed and refused ones too");
        PaperStates x = new PaperStates();
        for (int n = 0; n < 6; n++) {
            x.notice(1, 0, n);
            x.country(n, 0, 9);
            x.says(n, 0, n % 2 == 0);
        }
        x.day(10);
        due("notice 6", x.notice(1, 0, 100), -1);
    }

    private static void countryWithoutNotice() {
        sentence("4", "false when there are none such: the notice");
        due("country(0, 0, 0) on a new object", new PaperStates().country(0, 0, 0), false);
        PaperStates x = withNotices(2);
        int[] none = {-1, 2, 5, 6, LEAST, MOST};
        for (int n : none) {
            due("country(" + n + ", 0, 0)", x.country(n, 0, 0), false);
        }
        due("day(5)", x.day(5), 0);
        due("country(0, 0, 0)", x.country(0, 0, 0), true);
        due("country(1, 0, 0)", x.country(1, 0, 0), true);
    }

    private static void countryOfTheLastNotice() {
        sentence("4", "false when there are none such: the notice, all places taken");
        PaperStates x = withNotices(6);
        due("country(6, 0, 0)", x.country(6, 0, 0), false);
        due("country(5, 0, 0)", x.country(5, 0, 0), true);
    }

    private static void countryNames() {
        sentence("4 (Terms)", "COUNTRIES, some of 0 .. 5");
        PaperStates x = withNotices(2);
        int[] none = {-1, 6, LEAST, MOST};
        for (int c : none) {
            due("country(0, " + c + ", 0)", x.country(0, c, 0), false);
            due("country(1, " + c + ", 0)", x.country(1, c, 0), false);
        }
        due("day(1)", x.day(1), 0);
        due("state(0)", x.state(0), 0);
        due("country(0, 0, 0)", x.country(0, 0, 0), true);
        due("country(0, 5, 0)", x.country(0, 5, 0), true);
        due("day(2)", x.day(2), 2);
    }

    private static void countryDays() {
        sentence("4", "of 0 .. 1000 days");
        PaperStates x = withNotices(1);
        int[] none = {-1, 1001, LEAST, MOST};
        for (int days : none) {
            due("country(0, 0, " + days + ")", x.country(0, 0, days), false);
        }
        due("says(0, 0, true) of one not told", x.says(0, 0, true), false);
        due("country(0, 0, 0)", x.country(0, 0, 0), true);
        due("country(0, 1, 1000)", x.country(0, 1, 1000), true);
        due("day(1)", x.day(1), 1);
        due("day(1000)", x.day(1000), 0);
        due("day(1001)", x.day(1001), 1);
    }

    private static void countryAlready() {
        sentence("4", "false when it has it already");
        PaperStates x = withNotices(1);
        for (int c = 0; c < 4; c++) {
            x.country(0, c, c == 3 ? 0 : 8);
        }
        x.says(0, 1, true);
        x.says(0, 2, true);
        due("day(1)", x.day(1), 1);
        due("one that is asked", x.country(0, 0, 1000), false);
        due("one that agreed", x.country(0, 1, 1000), false);
        due("one that agreed, of the same days", x.country(0, 2, 8), false);
        due("one that agreed silently", x.country(0, 3, 1000), false);
        due("day(8)", x.day(8), 0);
        due("day(9), by the first days", x.day(9), 1);
        due("state(0)", x.state(0), 1);
        x.country(0, 4, 5);
        x.says(0, 4, false);
        due("one that refused", x.country(0, 4, 5), false);
        due("state(0) still refused", x.state(0), 2);
    }

    private static void countryAllSix() {
        sentence("4", "one more country: all places taken");
        PaperStates x = withNotices(1);
        for (int c = 5; c >= 0; c--) {
            due("country " + c, x.country(0, c, c), true);
        }
        for (int c = 0; c < 6; c++) {
            due("country " + c + " again", x.country(0, c, c), false);
        }
        due("country 6", x.country(0, 6, 0), false);
        for (int d = 1; d <= 6; d++) {
            due("day " + d, x.day(d), 1);
        }
    }

    private static void countryOfEachNotice() {
        sentence("4", "it has it already: of another notice it is free");
        PaperStates x = withNotices(6);
        for (int n = 0; n < 6; n++) {
            due("country(" + n + ", 2, 4)", x.country(n, 2, 4), true);
        }
        x.says(3, 2, false);
        due("state(3)", x.state(3), 2);
        due("state(2)", x.state(2), 0);
        due("day(5)", x.day(5), 5);
    }

    private static void countryAskedOnTheDayItWasTold() {
        sentence("4 (Terms)", "asked on the day that was today when the country was told");
        PaperStates x = withNotices(1);
        x.day(10);
        x.country(0, 0, 4);
        x.day(12);
        x.country(0, 1, 4);
        due("day(14)", x.day(14), 0);
        due("day(15)", x.day(15), 1);
        due("day(16)", x.day(16), 0);
        due("day(17)", x.day(17), 1);
    }

    private static void saysWithoutNotice() {
        sentence("5", "false when there are none such: the notice");
        due("says(0, 0, true) on a new object", new PaperStates().says(0, 0, true), false);
        PaperStates x = withNotices(6);
        for (int n = 0; n < 6; n++) {
            x.country(n, 0, 1);
        }
        int[] none = {-1, 6, LEAST, MOST};
        for (int n : none) {
            due("says(" + n + ", 0, true)", x.says(n, 0, true), false);
            due("says(" + n + ", 0, false)", x.says(n, 0, false), false);
        }
        due("says(5, 0, true)", x.says(5, 0, true), true);
        due("says(0, 0, true)", x.says(0, 0, true), true);
    }

    private static void saysNames() {
        sentence("5", "false when there are none such: the country");
        PaperStates x = withNotices(2);
        for (int c = 0; c < 6; c++) {
            x.country(0, c, 9);
            x.country(1, c, 9);
        }
        int[] none = {-1, 6, LEAST, MOST};
        for (int c : none) {
            due("says(0, " + c + ", false)", x.says(0, c, false), false);
            due("says(1, " + c + ", false)", x.says(1, c, false), false);
        }
        due("state(0)", x.state(0), 0);
        due("says(0, 0, true)", x.says(0, 0, true), true);
        due("says(0, 5, false)", x.says(0, 5, false), true);
        due("state(0) then", x.state(0), 2);
        due("state(1) then", x.state(1), 0);
    }

    private static void saysNotTold() {
        sentence("5", "false when it is not asked: none told yet");
        PaperStates x = withNotices(1);
        for (int c = 0; c < 6; c++) {
            due("says(0, " + c + ", false)", x.says(0, c, false), false);
            due("says(0, " + c + ", true)", x.says(0, c, true), false);
        }
        due("state(0)", x.state(0), 0);
        due("country(0, 0, 0)", x.country(0, 0, 0), true);
    }

    private static void saysTwice() {
        sentence("5", "false when it is not asked: it said so already");
        PaperStates x = withNotices(2);
        x.country(0, 0, 9);
        x.country(1, 0, 9);
        due("yes", x.says(0, 0, true), true);
        due("yes, yes", x.says(0, 0, true), false);
        due("yes, no", x.says(0, 0, false), false);
        due("state(0)", x.state(0), 1);
        due("no", x.says(1, 0, false), true);
        due("no, no", x.says(1, 0, false), false);
        due("no, yes", x.says(1, 0, true), false);
        due("state(1)", x.state(1), 2);
    }

    private static void saysOnTheLastDay() {
        sentence("5", "A country that is asked says yes or no: on its last day");
        PaperStates x = withNotices(2);
        x.day(2);
        x.country(0, 0, 5);
        x.country(1, 0, 0);
        due("0 days, on the day", x.says(1, 0, false), true);
        due("day(7)", x.day(7), 0);
        due("5 days, on the fifth", x.says(0, 0, false), true);
        due("state(0)", x.state(0), 2);
        due("day(8)", x.day(8), 0);
        due("state(0) then", x.state(0), 2);
    }

    private static void saysWhenSilent() {
        sentence("5", "false when it is not asked: it agreed silently");
        PaperStates x = withNotices(1);
        x.day(2);
        x.country(0, 0, 5);
        due("day(8)", x.day(8), 1);
        due("no", x.says(0, 0, false), false);
        due("yes", x.says(0, 0, true), false);
        due("state(0)", x.state(0), 1);
    }

    private static void saysOnItsOwnNotice() {
        sentence("5", "says yes or no: for that notice alone");
        PaperStates x = withNotices(2);
        x.country(0, 0, 9);
        due("says(1, 0, false)", x.says(1, 0, false), false);
        due("state(0)", x.state(0), 0);
        due("says(0, 0, true)", x.says(0, 0, true), true);
    }

    private static void stateWithoutNotice() {
        sentence("6", "NONE when there is none such");
        due("state(0) on a new object", new PaperStates().state(0), -1);
        PaperStates x = withNotices(1);
        int[] none = {-1, 1, 5, 6, LEAST, MOST};
        for (int n : none) {
            due("state(" + n + ")", x.state(n), -1);
        }
        due("state(0)", x.state(0), 0);
    }

    private static void stateOfTheLastNotice() {
        sentence("6", "NONE when there is none such: all places taken");
        PaperStates x = withNotices(6);
        due("state(5)", x.state(5), 0);
        due("state(6)", x.state(6), -1);
    }

    private static void stateWithoutCountry() {
        sentence("6 (Terms)", "1 agreed, when it has a country; else 0");
        PaperStates x = withNotices(1);
        due("state(0) without countries", x.state(0), 0);
        x.country(0, 0, 1);
        due("state(0) with one asked", x.state(0), 0);
        x.says(0, 0, true);
        due("state(0) with one that agrees", x.state(0), 1);
    }

    private static void stateAllAgree() {
        sentence("6 (Terms)", "1 agreed, when all agree");
        PaperStates x = withNotices(1);
        for (int c = 0; c < 6; c++) {
            x.country(0, c, c == 0 ? 4 : 9);
        }
        for (int c = 1; c < 6; c++) {
            x.says(0, c, true);
            due("state(0) with " + c + " of 6", x.state(0), 0);
        }
        x.day(4);
        due("state(0) on the last one's last day", x.state(0), 0);
        x.day(5);
        due("state(0) with 6 of 6", x.state(0), 1);
    }

    private static void stateSomeRefused() {
        sentence("6 (Terms)", "2 refused, when some country refused");
        for (int refusing = 0; refusing < 6; refusing++) {
            PaperStates x = withNotices(1);
            for (int c = 0; c < 6; c++) {
                x.country(0, c, 9);
                x.says(0, c, c != refusing);
            }
            due("state(0) with 1 of 6, country " + refusing, x.state(0), 2);
        }
        PaperStates y = withNotices(1);
        y.country(0, 0, 9);
        y.country(0, 1, 9);
        y.says(0, 1, false);
        due("state(0) with one still asked", y.state(0), 2);
    }

    private static void stateLapsedBehindItsLastDay() {
        sentence("6 (Terms)", "3 lapsed, when today is behind its last day");
        PaperStates x = new PaperStates();
        x.notice(1, 0, 0);
        addAgreed(x, 1, 2, 7);
        due("state(0) on day 0", x.state(0), 0);
        due("state(1) before its first day", x.state(1), 1);
        x.day(1);
        due("state(0) on day 1", x.state(0), 3);
        x.day(7);
        due("state(1) on day 7", x.state(1), 1);
        x.day(8);
        due("state(1) on day 8", x.state(1), 3);
    }

    private static void stateRefusedBeforeLapsed() {
        sentence("6 (Terms)", "2 refused, .. else 3 lapsed");
        PaperStates x = new PaperStates();
        x.notice(1, 0, 3);
        x.country(0, 0, 9);
        x.says(0, 0, false);
        x.day(4);
        due("state(0)", x.state(0), 2);
        x.day(100000);
        due("state(0) on the last day", x.state(0), 2);
    }

    private static void stateLapsedBeforeAgreed() {
        sentence("6 (Terms)", "3 lapsed, .. else 1 agreed, .. else 0");
        PaperStates x = new PaperStates();
        addAgreed(x, 1, 0, 3);
        x.notice(1, 0, 3);
        x.notice(1, 0, 3);
        x.country(2, 0, 9);
        x.day(4);
        due("state of the agreed one", x.state(0), 3);
        due("state of the one without countries", x.state(1), 3);
        due("state of the asked one", x.state(2), 3);
    }

    private static void stateNeverLapsesOn100000() {
        sentence("6 (Terms)", "3 lapsed: the last day of all");
        PaperStates x = new PaperStates();
        addAgreed(x, 1, 100000, 100000);
        addAgreed(x, 1, 0, 99999);
        x.day(100000);
        due("state to 100000", x.state(0), 1);
        due("state to 99999", x.state(1), 3);
    }

    private static void leftWithoutNotice() {
        sentence("13", "NONE when there is none such");
        due("left(0) on a new object", new PaperStates().left(0), -1);
        PaperStates x = withNotices(6);
        int[] none = {-1, 6, LEAST, MOST};
        for (int n : none) {
            due("left(" + n + ")", x.left(n), -1);
        }
        due("left(5)", x.left(5), 15);
        due("left(1) of one notice", withNotices(1).left(1), -1);
    }

    private static void leftOfAll() {
        sentence("13", "Grams left of a notice: no moves yet");
        due("left of 1", agreed(1).left(0), 1);
        due("left of 1000000000", agreed(HIGHEST_GRAMS).left(0), HIGHEST_GRAMS);
    }

    private static void leftOfNone() {
        sentence("13", "Grams left of a notice: none left");
        PaperStates x = agreed(HIGHEST_GRAMS);
        due("move of all but 1", x.move(0, HIGHEST_GRAMS - 1, 3), 0);
        due("left(0)", x.left(0), 1);
        due("move of 2", x.move(0, 2, 3), -3);
        due("left(0) behind a refused move", x.left(0), 1);
        due("move of 1", x.move(0, 1, 3), 1);
        due("left(0) of none", x.left(0), 0);
        due("move of 1 more", x.move(0, 1, 3), -3);
        due("left(0) still", x.left(0), 0);
    }

    private static void leftByMoveState() {
        sentence("13 (Terms)", "less those of its moves that are neither returned nor cancelled");
        PaperStates x = inAllStates(100);
        due("left(0) with told, taken, received, recovered", x.left(0), 60);
        x.event(0, CANCEL, 0);
        due("left(0) with the told one cancelled", x.left(0), 70);
        x.event(1, RETURN, 0);
        due("left(0) with the taken one returned", x.left(0), 80);
        x.event(2, RETURN, 0);
        due("left(0) with the received one returned", x.left(0), 90);
        due("the recovered one stays", x.event(3, RETURN, 0), -3);
        due("left(0) at last", x.left(0), 90);
        due("a move of all of it", x.move(0, 90, 6), 6);
    }

    private static void leftOfItsOwnMoves() {
        sentence("13 (Terms)", "those of its moves");
        PaperStates x = new PaperStates();
        for (int n = 0; n < 6; n++) {
            addAgreed(x, 100, 0, 50);
        }
        for (int n = 0; n < 6; n++) {
            x.move(n, n + 1, 10);
            x.move(n, 10, 10);
        }
        for (int n = 0; n < 6; n++) {
            due("left(" + n + ")", x.left(n), 89 - n);
        }
    }

    private static void bankWithoutNotice() {
        sentence("14", "for a notice: none such");
        due("bank(0, 1) on a new object", new PaperStates().bank(0, 1), false);
        PaperStates x = withNotices(6);
        int[] none = {-1, 6, LEAST, MOST};
        for (int n : none) {
            due("bank(" + n + ", 1)", x.bank(n, 1), false);
        }
        due("bank(5, 1)", x.bank(5, 1), true);
        due("held(5)", x.held(5), 1);
        due("bank(1, 1) of one notice", withNotices(1).bank(1, 1), false);
    }

    private static void bankFewestCents() {
        sentence("14", "1 .. cents more");
        PaperStates x = withNotices(1);
        due("bank(0, 0)", x.bank(0, 0), false);
        due("bank(0, -1)", x.bank(0, -1), false);
        due("bank(0, least)", x.bank(0, Long.MIN_VALUE), false);
        due("held(0)", x.held(0), 0);
        due("bank(0, 1)", x.bank(0, 1), true);
        due("held(0) of 1", x.held(0), 1);
        due("bank(0, -1) then", x.bank(0, -1), false);
        due("held(0) still", x.held(0), 1);
    }

    private static void bankMostCents() {
        sentence("14", ".. 1000000000 cents more");
        PaperStates x = withNotices(1);
        due("bank(0, 1000000001)", x.bank(0, HIGHEST_CENTS + 1), false);
        due("bank(0, 2^32 + 1)", x.bank(0, CUT_TO_ONE), false);
        due("bank(0, 10000000000)", x.bank(0, ALL_CENTS), false);
        due("bank(0, most)", x.bank(0, Long.MAX_VALUE), false);
        due("held(0)", x.held(0), 0);
        due("bank(0, 1000000000)", x.bank(0, HIGHEST_CENTS), true);
        due("held(0) then", x.held(0), HIGHEST_CENTS);
    }

    private static void bankInAll() {
        sentence("14", "10000000000 in all at most");
        PaperStates x = withNotices(1);
        for (int i = 0; i < 10; i++) {
            due("payment " + i, x.bank(0, HIGHEST_CENTS), true);
        }
        due("held(0)", x.held(0), ALL_CENTS);
        due("1 more", x.bank(0, 1), false);
        due("1000000000 more", x.bank(0, HIGHEST_CENTS), false);
        due("held(0) still", x.held(0), ALL_CENTS);
    }

    private static void bankInAllByOne() {
        sentence("14", "10000000000 in all at most: one cent less and one more");
        PaperStates x = withNotices(1);
        for (int i = 0; i < 9; i++) {
            x.bank(0, HIGHEST_CENTS);
        }
        x.bank(0, 500);
        due("one more than fits", x.bank(0, HIGHEST_CENTS - 499), false);
        due("held(0)", x.held(0), 9 * HIGHEST_CENTS + 500);
        due("one less than fits", x.bank(0, HIGHEST_CENTS - 501), true);
        due("2 more", x.bank(0, 2), false);
        due("1 more", x.bank(0, 1), true);
        due("held(0) of all", x.held(0), ALL_CENTS);
    }

    private static void bankWrapAround() {
        sentence("14", "10000000000 in all at most: sums that would wrap around");
        PaperStates x = withNotices(1);
        x.bank(0, HIGHEST_CENTS);
        due("bank(0, most)", x.bank(0, Long.MAX_VALUE), false);
        due("bank(0, most - 999999999)", x.bank(0, Long.MAX_VALUE - 999999999L), false);
        due("bank(0, least)", x.bank(0, Long.MIN_VALUE), false);
        due("held(0)", x.held(0), HIGHEST_CENTS);
    }

    private static void bankOfEachNotice() {
        sentence("14", "paid in for a notice: each has its own sum");
        PaperStates x = withNotices(6);
        for (int n = 0; n < 6; n++) {
            for (int i = 0; i < 10; i++) {
                due("payment " + i + " for " + n, x.bank(n, HIGHEST_CENTS - n), true);
            }
        }
        due("bank(0, 1)", x.bank(0, 1), false);
        due("bank(5, 50)", x.bank(5, 50), true);
        due("bank(5, 1)", x.bank(5, 1), false);
        due("held(1)", x.held(1), ALL_CENTS - 10);
    }

    private static void heldWithoutNotice() {
        sentence("15", "NONE when there is none such");
        due("held(0) on a new object", new PaperStates().held(0), -1);
        PaperStates x = withNotices(6);
        x.bank(5, 8);
        int[] none = {-1, 6, LEAST, MOST};
        for (int n : none) {
            due("held(" + n + ")", x.held(n), -1);
        }
        due("held(5)", x.held(5), 8);
        due("held(1) of one notice", withNotices(1).held(1), -1);
    }

    private static void heldWithoutCents() {
        sentence("15", "The sum held: nothing paid in yet");
        due("held(0)", withNotices(1).held(0), 0);
        due("held(0), some recovered", inAllStates(100).held(0), 0);
    }

    private static void heldUntilRecovered() {
        sentence("15 (Terms)", "its grams less those of recovered moves");
        PaperStates x = agreed(10);
        x.bank(0, 1000);
        x.move(0, 4, 3);
        x.move(0, 1, 3);
        x.move(0, 1, 3);
        x.day(3);
        due("held(0) when told", x.held(0), 1000);
        x.event(0, TAKE, 0);
        due("held(0) when taken", x.held(0), 1000);
        x.event(0, RECEIVE, 0);
        due("held(0) when received", x.held(0), 1000);
        x.mark(0, 0, 1);
        due("held(0) when marked", x.held(0), 1000);
        x.event(1, CANCEL, 0);
        due("held(0) when another is cancelled", x.held(0), 1000);
        x.event(2, TAKE, 0);
        x.event(2, RETURN, 0);
        due("held(0) when another is returned", x.held(0), 1000);
        x.event(0, RECOVER, 0);
        due("held(0) when recovered", x.held(0), 600);
    }

    private static void heldOfNone() {
        sentence("15", "The sum held: all recovered");
        PaperStates x = agreed(10);
        x.bank(0, HIGHEST_CENTS);
        x.move(0, 9, 3);
        x.move(0, 1, 3);
        x.day(3);
        recover(x, 0);
        due("held(0) with 1 of 10 not recovered", x.held(0), HIGHEST_CENTS / 10);
        recover(x, 1);
        due("held(0)", x.held(0), 0);
        x.bank(0, 77);
        due("held(0) when more is paid in", x.held(0), 0);
    }

    private static void heldUp() {
        sentence("15 (Terms)", "over its grams, up");
        PaperStates x = agreed(HIGHEST_GRAMS);
        x.bank(0, 1);
        x.move(0, HIGHEST_GRAMS - 1, 3);
        x.day(3);
        recover(x, 0);
        due("1 cent times 1 gram over 1000000000", x.held(0), 1);
        PaperStates y = agreed(3);
        y.bank(0, 1);
        y.move(0, 1, 3);
        y.day(3);
        recover(y, 0);
        due("1 times 2 over 3", y.held(0), 1);
        y.bank(0, 1);
        due("2 times 2 over 3", y.held(0), 2);
        y.bank(0, 2);
        due("4 times 2 over 3", y.held(0), 3);
    }

    private static void heldEven() {
        sentence("15 (Terms)", "over its grams, up: no rest, no cent more");
        PaperStates x = agreed(3);
        x.bank(0, 3);
        x.move(0, 1, 3);
        x.day(3);
        recover(x, 0);
        due("3 times 2 over 3", x.held(0), 2);
        x.bank(0, 3);
        due("6 times 2 over 3", x.held(0), 4);
        PaperStates y = agreed(1);
        y.bank(0, 5);
        due("5 times 1 over 1", y.held(0), 5);
    }

    private static void heldOfTheMost() {
        sentence("15", "The sum held: the most cents times the most grams, no wrap-around");
        PaperStates x = agreed(HIGHEST_GRAMS);
        for (int i = 0; i < 10; i++) {
            x.bank(0, HIGHEST_CENTS);
        }
        due("nothing recovered", x.held(0), ALL_CENTS);
        x.move(0, 1, 3);
        x.move(0, HIGHEST_GRAMS - 2, 3);
        x.day(3);
        recover(x, 0);
        due("all but 1 gram", x.held(0), ALL_CENTS - 10);
        recover(x, 1);
        due("1 gram", x.held(0), 10);
        PaperStates y = agreed(999999999L);
        for (int i = 0; i < 9; i++) {
            y.bank(0, HIGHEST_CENTS);
        }
        y.bank(0, 999999998L);
        y.move(0, 1, 3);
        y.day(3);
        recover(y, 0);
        // 9999999998 is 10 * 999999999 and 8 more, so 9999999998 / 999999999 = 10.00.. falls off it.
        due("odd ones", y.held(0), 9999999988L);
    }

    private static void heldOfItsOwnMoves() {
        sentence("15 (Terms)", "the grams of it that were not recovered yet");
        PaperStates x = agreed(10);
        addAgreed(x, 10, 0, 50);
        x.bank(0, 100);
        x.bank(1, 100);
        x.move(1, 4, 3);
        x.day(3);
        recover(x, 0);
        due("held(0)", x.held(0), 100);
        due("held(1)", x.held(1), 60);
    }

    private static void printWithoutNotice() {
        sentence("20", "NONE when there are none such: the notice");
        due("print(0, 0) on a new object", new PaperStates().print(0, 0), -1);
        PaperStates x = withNotices(6);
        int[] none = {-1, 6, LEAST, MOST};
        for (int n : none) {
            due("print(" + n + ", 0)", x.print(n, 0), -1);
            due("print(" + n + ", -1)", x.print(n, -1), -1);
        }
        due("print(5, 0)", x.print(5, 0), '5');
        due("print(1, 0) of one notice", withNotices(1).print(1, 0), -1);
    }

    private static void printBytes() {
        sentence("20", "NONE when there are none such: the byte");
        PaperStates x = agreed(7);
        x.move(0, 5, 3);
        int last = "0 7 0 100000 1,0:5t".length() - 1;
        int[] none = {-1, last + 1, last + 2, 207, 208, 209, LEAST, MOST};
        for (int i : none) {
            due("print(0, " + i + ")", x.print(0, i), -1);
        }
        due("print(0, 0)", x.print(0, 0), '0');
        due("print(0, " + last + ")", x.print(0, last), 't');
    }

    private static void printShortest() {
        sentence("20", "its number, grams, both days and state: the shortest");
        PaperStates x = new PaperStates();
        x.notice(1, 0, 0);
        duePaper(x, 0, "0 1 0 0 0");
    }

    private static void printLongest() {
        sentence("20", "for each of its moves: the longest");
        PaperStates x = new PaperStates();
        addAgreed(x, HIGHEST_GRAMS, 100000, 100000);
        x.right(0, CANCEL, true);
        StringBuilder want = new StringBuilder("0 1000000000 100000 100000 1");
        for (int m = 0; m < 12; m++) {
            x.move(0, HIGHEST_GRAMS, 100000);
            x.event(m, CANCEL, 0);
            want.append(',').append(m).append(":1000000000x");
        }
        duePaper(x, 0, want.toString());
    }

    private static void printStates() {
        sentence("20", "its .. state: each of the four");
        PaperStates x = new PaperStates();
        x.notice(10, 0, 1);
        x.notice(10, 0, 9);
        addAgreed(x, 10, 0, 9);
        x.notice(10, 0, 1);
        x.country(3, 0, 9);
        x.says(3, 0, false);
        duePaper(x, 0, "0 10 0 1 0");
        x.day(2);
        duePaper(x, 0, "0 10 0 1 3");
        duePaper(x, 1, "1 10 0 9 0");
        duePaper(x, 2, "2 10 0 9 1");
        duePaper(x, 3, "3 10 0 1 2");
    }

    private static void printLetters() {
        sentence("20", "t told, k taken, v received, c recovered, r returned, x cancelled");
        duePaper(inAllStates(60), 0, "0 60 0 100000 1,0:10t,1:10k,2:10v,3:10c,4:10r,5:10x");
    }

    private static void printItsOwnMoves() {
        sentence("20", "then for each of its moves");
        PaperStates x = agreed(100);
        addAgreed(x, 20, 5, 50);
        x.notice(9, 1, 2);
        x.move(1, 1, 9);
        x.move(0, 100, 9);
        x.move(1, 10, 9);
        duePaper(x, 0, "0 100 0 100000 1,1:100t");
        duePaper(x, 1, "1 20 5 50 1,0:1t,2:10t");
        duePaper(x, 2, "2 9 1 2 0");
    }

    private static void printNumbersOfTwoDigits() {
        sentence("20", "the move's number: all places taken, and the last notice");
        PaperStates x = new PaperStates();
        for (int n = 0; n < 6; n++) {
            addAgreed(x, 1000, 0, 10);
        }
        for (int m = 0; m < 9; m++) {
            x.move(0, 1, 3);
        }
        x.move(5, 10, 3);
        x.move(5, 101, 3);
        x.move(5, 889, 3);
        duePaper(x, 5, "5 1000 0 10 1,9:10t,10:101t,11:889t");
    }
}
