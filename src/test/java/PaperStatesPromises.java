/** For each promise: ordinary inputs, the edges that the document names, and wrong inputs. */
public final class PaperStatesPromises {
    private static final int TAKE = 0;
    private static final int RECEIVE = 1;
    private static final int RECOVER = 2;
    private static final int RETURN = 3;
    private static final int CANCEL = 4;

    private static int wrong = 0;

    public static void main(String[] args) {
        newObject();
        day();
        dayCountsAllNotices();
        notice();
        noticeEdges();
        country();
        says();
        state();
        stateOrder();
        moveNone();
        moveOrder();
        moveTwelve();
        moveState();
        rights();
        eventTable();
        eventOrder();
        eventTakeNeedsAgreement();
        eventRefusedChangesNothing();
        mark();
        left();
        bank();
        held();
        heldLarge();
        limit();
        late();
        lateSinceReceived();
        carrier();
        back();
        print();
        printLongest();
        objectsAreApart();
        System.out.println(wrong == 0 ? "all promises hold" : wrong + " answers are not as due");
        if (wrong != 0) {
            System.exit(1);
        }
    }

    private static void due(String what, long got, long want) {
        if (got != want) {
            wrong++;
            System.out.println(what + " answered " + got + ", due is " + want);
        }
    }

    private static void due(String what, boolean got, boolean want) {
        due(what, got ? 1 : 0, want ? 1 : 0);
    }

    private static void duePaper(String what, PaperStates x, int notice, String want) {
        StringBuilder got = new StringBuilder();
        int next = x.print(notice, 0);
        for (int i = 1; i < 400 && next != PaperStates.NONE; i++) {
            got.append((char) next);
            next = x.print(notice, i);
        }
        if (!got.toString().equals(want)) {
            wrong++;
            System.out.println(what + " printed '" + got + "', due is '" + want + "'");
        }
    }

    /** One agreed notice, 0, of so many grams, for the days 0 .. 1000, and persons 0 and 1 with all rights. */
    private static PaperStates agreed(long grams) {
        PaperStates x = new PaperStates();
        x.notice(grams, 0, 1000);
        x.country(0, 0, 10);
        x.says(0, 0, true);
        for (int e = 0; e < 5; e++) {
            x.right(0, e, true);
            x.right(1, e, true);
        }
        return x;
    }

    /** As agreed, with moves of 10 grams on day 3, one for each state, on which its number lands. */
    private static PaperStates inAllStates() {
        PaperStates x = agreed(60);
        for (int m = 0; m < 6; m++) {
            x.move(0, 10, 3);
        }
        x.day(3);
        for (int m = 1; m < 5; m++) {
            x.event(m, TAKE, 0);
        }
        x.event(2, RECEIVE, 0);
        x.event(3, RECEIVE, 0);
        x.mark(3, 0, 1);
        x.event(3, RECOVER, 0);
        x.event(4, RETURN, 0);
        x.event(5, CANCEL, 0);
        return x;
    }

    private static void newObject() {
        PaperStates x = new PaperStates();
        due("new: state", x.state(0), -1);
        due("new: moveState", x.moveState(0), -1);
        for (int p = 0; p < 8; p++) {
            for (int e = 0; e < 5; e++) {
                due("new: may " + p + " " + e, x.may(p, e), false);
            }
        }
        due("new: today is 0", x.day(0), 0);
        x = inAllStates();
        x.day(3 + 365);
        due("new: 365 days are not beyond the limit", x.late(0), -1);
        x.day(3 + 366);
        due("new: 366 days are beyond the limit", x.late(0), 2);
        due("NONE", PaperStates.NONE, -1);
    }

    private static void day() {
        PaperStates x = new PaperStates();
        due("day below 0", x.day(-1), -1);
        due("day least", x.day(Integer.MIN_VALUE), -1);
        due("day above all", x.day(100001), -1);
        due("day most", x.day(Integer.MAX_VALUE), -1);
        due("day 5", x.day(5), 0);
        due("day before today", x.day(4), -1);
        due("day same", x.day(5), 0);
        x.notice(1, 0, 100000);
        x.country(0, 0, 0);
        x.country(0, 1, 1000);
        due("day same, asked today", x.day(5), 0);
        due("day 6", x.day(6), 1);
        due("day on the last day to answer", x.day(1005), 0);
        due("day refused changes nothing", x.day(100001), -1);
        due("state after a refused day", x.state(0), 0);
        due("day behind it", x.day(1006), 1);
        due("day last", x.day(100000), 0);
        due("day behind the last", x.day(100001), -1);
    }

    private static void dayCountsAllNotices() {
        PaperStates x = new PaperStates();
        for (int n = 0; n < 6; n++) {
            x.notice(1, 0, 0);
            for (int c = 0; c < 6; c++) {
                x.country(n, c, c);
            }
        }
        x.says(0, 0, true);
        x.says(1, 0, false);
        due("day counts those still asked, of lapsed and refused notices too", x.day(1), 4);
        due("day counts each once", x.day(3), 12);
        due("day counts the rest", x.day(100), 18);
        due("day has none left", x.day(200), 0);
    }

    private static void notice() {
        PaperStates x = new PaperStates();
        due("notice without grams", x.notice(0, 0, 1), -1);
        due("notice of fewer than none", x.notice(-1, 0, 1), -1);
        due("notice of least", x.notice(Long.MIN_VALUE, 0, 1), -1);
        due("notice of too many", x.notice(1000000001L, 0, 1), -1);
        due("notice of most", x.notice(Long.MAX_VALUE, 0, 1), -1);
        due("notice of 2^32 + 1 grams", x.notice(4294967297L, 0, 1), -1);
        due("notice from before 0", x.notice(1, -1, 1), -1);
        due("notice to before from", x.notice(1, 2, 1), -1);
        due("notice to behind all", x.notice(1, 0, 100001), -1);
        due("notice from and to behind all", x.notice(1, 100001, 100001), -1);
        due("notice of all below 0", x.notice(1, -2, -1), -1);
        due("notices refused are not there", x.state(0), -1);
    }

    private static void noticeEdges() {
        PaperStates x = new PaperStates();
        x.day(50);
        due("notice least", x.notice(1, 0, 0), 0);
        due("notice most", x.notice(1000000000L, 100000, 100000), 1);
        due("notice of all days", x.notice(5, 0, 100000), 2);
        due("notice 3", x.notice(5, 3, 3), 3);
        due("notice 4", x.notice(5, 3, 4), 4);
        due("notice 5", x.notice(5, 3, 5), 5);
        due("notice 6", x.notice(5, 3, 6), -1);
        due("no notice 6", x.state(6), -1);
        due("left of the most", x.left(1), 1000000000L);
    }

    private static void country() {
        PaperStates x = new PaperStates();
        due("country without notice", x.country(0, 0, 1), false);
        x.notice(10, 0, 100);
        due("country of notice -1", x.country(-1, 0, 1), false);
        due("country of notice 1", x.country(1, 0, 1), false);
        due("country -1", x.country(0, -1, 1), false);
        due("country 6", x.country(0, 6, 1), false);
        due("country least", x.country(0, Integer.MIN_VALUE, 1), false);
        due("country most", x.country(0, Integer.MAX_VALUE, 1), false);
        due("country of -1 days", x.country(0, 0, -1), false);
        due("country of 1001 days", x.country(0, 0, 1001), false);
        due("country 0", x.country(0, 0, 0), true);
        due("country 0 again", x.country(0, 0, 5), false);
        due("country 5", x.country(0, 5, 1000), true);
        due("country 0 agrees by its first days", x.day(1), 1);
        due("country that agreed, again", x.country(0, 0, 5), false);
        x.says(0, 5, false);
        due("country that refused, again", x.country(0, 5, 5), false);
        due("country of a refused notice", x.country(0, 1, 5), true);
        x.notice(10, 0, 100);
        due("country of another notice", x.country(1, 0, 7), true);
        due("days run from the day it was told", x.day(6), 0);
        due("country 1 of notice 0", x.day(7), 1);
        due("country 0 of notice 1", x.day(9), 1);
    }

    private static void says() {
        PaperStates x = new PaperStates();
        due("says without notice", x.says(0, 0, true), false);
        x.notice(10, 0, 100);
        due("says without country", x.says(0, 0, true), false);
        due("and it has none", x.state(0), 0);
        x.country(0, 0, 1);
        x.country(0, 1, 1);
        x.country(0, 2, 1);
        due("says of notice -1", x.says(-1, 0, true), false);
        due("says of notice 1", x.says(1, 0, true), false);
        due("says of country -1", x.says(0, -1, true), false);
        due("says of country 6", x.says(0, 6, true), false);
        due("says of one not told", x.says(0, 3, false), false);
        due("says yes", x.says(0, 0, true), true);
        due("says yes twice", x.says(0, 0, true), false);
        due("says no then", x.says(0, 0, false), false);
        due("state while others are asked", x.state(0), 0);
        x.day(2);
        due("says no when silent", x.says(0, 1, false), false);
        due("state when all agree", x.state(0), 1);
        x.country(0, 4, 0);
        due("says no", x.says(0, 4, false), true);
        due("says yes then", x.says(0, 4, true), false);
        due("state when one refused", x.state(0), 2);
    }

    private static void state() {
        PaperStates x = new PaperStates();
        x.notice(10, 5, 10);
        due("state -1", x.state(-1), -1);
        due("state 1", x.state(1), -1);
        due("state least", x.state(Integer.MIN_VALUE), -1);
        due("state most", x.state(Integer.MAX_VALUE), -1);
        due("state without country", x.state(0), 0);
        x.country(0, 3, 4);
        due("state asked", x.state(0), 0);
        x.day(4);
        due("state on the last day to answer", x.state(0), 0);
        x.day(5);
        due("state silently agreed", x.state(0), 1);
        x.country(0, 4, 100);
        due("state with one more asked", x.state(0), 0);
        x.says(0, 4, true);
        x.day(10);
        due("state on the notice's last day", x.state(0), 1);
        x.day(11);
        due("state behind it", x.state(0), 3);
    }

    private static void stateOrder() {
        PaperStates x = new PaperStates();
        x.notice(10, 0, 1);
        x.notice(10, 0, 1);
        x.country(0, 0, 1000);
        x.country(0, 1, 1000);
        x.says(0, 1, true);
        x.says(0, 0, false);
        due("state refused, one agreed", x.state(0), 2);
        x.day(2);
        due("state refused before lapsed", x.state(0), 2);
        due("state lapsed without country", x.state(1), 3);
        x.country(1, 0, 5);
        due("state lapsed with one asked", x.state(1), 3);
        x.says(1, 0, false);
        due("state refused when lapsed", x.state(1), 2);
    }

    private static void moveNone() {
        PaperStates x = new PaperStates();
        due("move without notice", x.move(0, 1, 5), -1);
        x.day(10);
        x.notice(100, 5, 20);
        x.country(0, 0, 5);
        x.says(0, 0, true);
        due("move of notice -1", x.move(-1, 1, 13), -1);
        due("move of notice 1", x.move(1, 1, 13), -1);
        due("move of no grams", x.move(0, 0, 13), -1);
        due("move of fewer", x.move(0, Long.MIN_VALUE, 13), -1);
        due("move in 2 days", x.move(0, 1, 12), -1);
        due("move in the past", x.move(0, 1, 5), -1);
        due("move before the notice", x.move(0, 1, 4), -1);
        due("move behind the notice", x.move(0, 1, 21), -1);
        due("move on the least day", x.move(0, 1, Integer.MIN_VALUE), -1);
        due("move on the most day", x.move(0, 1, Integer.MAX_VALUE), -1);
        due("no move yet", x.moveState(0), -1);
        due("move in 3 days", x.move(0, 1, 13), 0);
        due("move on the last day", x.move(0, 1, 20), 1);
        due("move too large", x.move(0, 99, 20), -3);
        due("move far too large", x.move(0, Long.MAX_VALUE, 20), -3);
        due("move of the rest", x.move(0, 98, 20), 2);
        due("move of none left", x.move(0, 1, 20), -3);
        due("left after them", x.left(0), 0);
        PaperStates y = agreed(10);
        y.notice(10, 50, 60);
        y.country(1, 0, 5);
        y.says(1, 0, true);
        due("move before a notice's first day", y.move(1, 1, 49), -1);
        due("move on a notice's first day", y.move(1, 1, 50), 0);
    }

    private static void moveOrder() {
        PaperStates x = new PaperStates();
        x.notice(100, 5, 20);
        due("move without country", x.move(0, 1, 10), -2);
        x.country(0, 0, 5);
        due("move while asked", x.move(0, 1, 10), -2);
        due("wrong day before not agreed", x.move(0, 1, 21), -1);
        due("no grams before not agreed", x.move(0, 0, 10), -1);
        due("not agreed before too much", x.move(0, 101, 10), -2);
        x.says(0, 0, true);
        due("too much", x.move(0, 101, 10), -3);
        due("wrong day before too much", x.move(0, 101, 2), -1);
        due("all at once", x.move(0, 100, 10), 0);
        x.country(0, 1, 5);
        x.says(0, 1, false);
        due("move when refused", x.move(0, 1, 10), -2);
    }

    private static void moveTwelve() {
        PaperStates x = agreed(100);
        x.notice(5, 0, 1000);
        x.country(1, 0, 10);
        x.says(1, 0, true);
        for (int m = 0; m < 12; m++) {
            due("move " + m, x.move(m % 5 == 4 ? 1 : 0, 1, 10), m);
        }
        due("move 12", x.move(0, 1, 10), -1);
        due("move 12 too large", x.move(0, 1000, 10), -1);
        x.event(0, CANCEL, 0);
        due("a cancelled move keeps its number", x.move(0, 1, 10), -1);
        x.country(0, 1, 10);
        due("move 12 when not agreed", x.move(0, 1, 10), -1);
        due("no move 12", x.moveState(12), -1);
        due("move 11", x.moveState(11), 0);
        due("left of 0", x.left(0), 91);
        due("left of 1", x.left(1), 3);
    }

    private static void moveState() {
        PaperStates x = inAllStates();
        for (int m = 0; m < 6; m++) {
            due("moveState " + m, x.moveState(m), m);
        }
        due("moveState -1", x.moveState(-1), -1);
        due("moveState 6", x.moveState(6), -1);
        due("moveState least", x.moveState(Integer.MIN_VALUE), -1);
        due("moveState most", x.moveState(Integer.MAX_VALUE), -1);
    }

    private static void rights() {
        PaperStates x = new PaperStates();
        int[] out = {-1, 8, Integer.MIN_VALUE, Integer.MAX_VALUE};
        for (int p : out) {
            due("right of person " + p, x.right(p, 0, true), false);
            due("may of person " + p, x.may(p, 0), false);
        }
        int[] events = {-1, 5, Integer.MIN_VALUE, Integer.MAX_VALUE};
        for (int e : events) {
            due("right to event " + e, x.right(0, e, true), false);
            due("right to event " + e + " of 1", x.right(1, e, true), false);
            due("may of event " + e, x.may(0, e), false);
        }
        for (int p = 0; p < 8; p++) {
            for (int e = 0; e < 5; e++) {
                due("none by refused rights " + p + " " + e, x.may(p, e), false);
                due("right on", x.right(p, e, true), true);
                due("may", x.may(p, e), true);
                due("right off", x.right(p, e, false), true);
                due("may not", x.may(p, e), false);
                due("right off again", x.right(p, e, false), true);
            }
        }
        x.right(1, 0, true);
        x.right(1, 0, true);
        x.right(7, 4, true);
        for (int p = 0; p < 8; p++) {
            for (int e = 0; e < 5; e++) {
                due("may " + p + " " + e, x.may(p, e), p == 1 && e == 0 || p == 7 && e == 4);
            }
        }
        due("may refuses event 5 of person 0", x.may(0, 5), false);
        due("may refuses event -1 of person 2", x.may(2, -5), false);
    }

    private static void eventTable() {
        int[][] leads = {
            {1, -3, -3, -3, -3, -3},
            {-3, 2, -3, -3, -3, -3},
            {-3, -3, 3, -3, -3, -3},
            {-3, 4, 4, -3, -3, -3},
            {5, -3, -3, -3, -3, -3},
        };
        for (int e = 0; e < 5; e++) {
            for (int s = 0; s < 6; s++) {
                PaperStates x = inAllStates();
                x.mark(2, 0, 1);
                due("event " + e + " from " + s, x.event(s, e, 1), leads[e][s]);
                due("state after event " + e + " from " + s, x.moveState(s), leads[e][s] < 0 ? s : leads[e][s]);
                for (int other = 0; other < 6; other++) {
                    if (other != s) {
                        due("other state after event", x.moveState(other), other);
                    }
                }
            }
        }
    }

    private static void eventOrder() {
        PaperStates x = agreed(10);
        x.move(0, 10, 5);
        int[] out = {-1, 100, Integer.MIN_VALUE, Integer.MAX_VALUE};
        for (int w : out) {
            due("event of move " + w, x.event(w, TAKE, 0), -1);
            due("event " + w, x.event(0, w, 0), -1);
            due("event by " + w, x.event(0, TAKE, w), -1);
        }
        due("event of move 1", x.event(1, TAKE, 0), -1);
        due("event 5", x.event(0, 5, 0), -1);
        due("event by 8", x.event(0, TAKE, 8), -1);
        due("no such move before no right", x.event(1, TAKE, 2), -1);
        due("no right before the state", x.event(0, RECEIVE, 2), -2);
        due("no right before the day", x.event(0, TAKE, 2), -2);
        due("the state before the mark", x.event(0, RECOVER, 0), -3);
        due("take before its day", x.event(0, TAKE, 0), -4);
        x.day(4);
        due("take a day before", x.event(0, TAKE, 0), -4);
        x.day(5);
        due("take on its day", x.event(0, TAKE, 0), 1);
        due("the state before the day", x.event(0, TAKE, 0), -3);
        due("receive", x.event(0, RECEIVE, 1), 2);
        due("no right before the mark", x.event(0, RECOVER, 2), -2);
        due("recover without mark", x.event(0, RECOVER, 0), -5);
        due("mark", x.mark(0, 0, 1), true);
        x.right(1, RECOVER, false);
        due("recover by one who may no more", x.event(0, RECOVER, 1), -2);
        x.right(5, RECOVER, true);
        due("recover by one who did not mark", x.event(0, RECOVER, 5), 3);
    }

    private static void eventTakeNeedsAgreement() {
        PaperStates x = agreed(10);
        x.move(0, 1, 5);
        x.move(0, 1, 5);
        x.move(0, 1, 5);
        x.day(6);
        due("take behind its day", x.event(0, TAKE, 0), 1);
        x.country(0, 1, 5);
        due("take while one more is asked", x.event(1, TAKE, 0), -4);
        x.says(0, 1, true);
        due("take when it agreed", x.event(1, TAKE, 0), 1);
        x.country(0, 2, 5);
        x.says(0, 2, false);
        due("take when refused", x.event(2, TAKE, 0), -4);
        due("receive when refused", x.event(1, RECEIVE, 0), 2);
        due("return when refused", x.event(0, RETURN, 0), 4);
        due("cancel when refused", x.event(2, CANCEL, 0), 5);
        PaperStates y = agreed(10);
        y.move(0, 1, 5);
        y.day(1000);
        due("take on the notice's last day", y.event(0, TAKE, 0), 1);
        y = agreed(10);
        y.move(0, 1, 5);
        y.day(1001);
        due("take when lapsed", y.event(0, TAKE, 0), -4);
    }

    private static void eventRefusedChangesNothing() {
        PaperStates x = agreed(10);
        x.move(0, 4, 5);
        x.event(0, TAKE, 0);
        x.event(0, RECEIVE, 0);
        x.event(0, TAKE, 3);
        due("state after refused events", x.moveState(0), 0);
        due("left after refused events", x.left(0), 6);
    }

    private static void mark() {
        for (int m = 0; m < 6; m++) {
            due("mark in state " + m, inAllStates().mark(m, 0, 1), m == 2);
        }
        PaperStates x = inAllStates();
        int[] out = {-1, 6, 12, Integer.MIN_VALUE, Integer.MAX_VALUE};
        for (int w : out) {
            due("mark of move " + w, x.mark(w, 0, 1), false);
        }
        int[] persons = {-1, 8, 0, 2, Integer.MIN_VALUE, Integer.MAX_VALUE};
        for (int p : persons) {
            due("mark by 0 and " + p, x.mark(2, 0, p), false);
            due("mark by " + p + " and 0", x.mark(2, p, 0), false);
        }
        x.right(2, TAKE, true);
        x.right(2, RECEIVE, true);
        x.right(2, RETURN, true);
        x.right(2, CANCEL, true);
        due("mark by one with other rights", x.mark(2, 0, 2), false);
        due("no mark by refused ones", x.event(2, RECOVER, 0), -5);
        x.right(7, RECOVER, true);
        due("mark by 7 and 1", x.mark(2, 7, 1), true);
        due("mark again", x.mark(2, 7, 1), false);
        due("mark again by others", x.mark(2, 0, 1), false);
        x.right(7, RECOVER, false);
        x.right(1, RECOVER, false);
        due("the mark stays", x.event(2, RECOVER, 0), 3);
        due("mark when recovered", x.mark(2, 0, 7), false);
    }

    private static void left() {
        PaperStates x = inAllStates();
        due("left without returned and cancelled", x.left(0), 20);
        due("left -1", x.left(-1), -1);
        due("left 1", x.left(1), -1);
        due("left least", x.left(Integer.MIN_VALUE), -1);
        due("left most", x.left(Integer.MAX_VALUE), -1);
        x.event(0, CANCEL, 0);
        due("left with one more cancelled", x.left(0), 30);
        x.event(2, RETURN, 0);
        due("left with one more returned", x.left(0), 40);
        due("a move of what came back", x.move(0, 40, 50), 6);
        due("left of none", x.left(0), 0);
        x.notice(7, 0, 10);
        due("left of another", x.left(1), 7);
    }

    private static void bank() {
        PaperStates x = new PaperStates();
        due("bank without notice", x.bank(0, 1), false);
        x.notice(10, 0, 10);
        x.notice(10, 0, 10);
        due("bank -1", x.bank(-1, 1), false);
        due("bank 2", x.bank(2, 1), false);
        due("bank of none", x.bank(0, 0), false);
        due("bank of fewer", x.bank(0, Long.MIN_VALUE), false);
        due("bank of too many", x.bank(0, 1000000001L), false);
        due("bank of most", x.bank(0, Long.MAX_VALUE), false);
        due("held of none", x.held(0), 0);
        due("bank of 1", x.bank(0, 1), true);
        due("bank of 1000000000", x.bank(0, 1000000000L), true);
        due("held of both", x.held(0), 1000000001L);
        for (int i = 0; i < 8; i++) {
            due("bank more", x.bank(0, 1000000000L), true);
        }
        due("bank beyond all", x.bank(0, 1000000000L), false);
        due("bank to all", x.bank(0, 999999999L), true);
        due("bank 1 beyond all", x.bank(0, 1), false);
        due("held of all", x.held(0), 10000000000L);
        due("held of the other", x.held(1), 0);
    }

    private static void held() {
        PaperStates x = inAllStates();
        due("held without cents", x.held(0), 0);
        x.bank(0, 7);
        due("held up: 7 * 50 / 60", x.held(0), 6);
        x.bank(0, 5);
        due("held even: 12 * 50 / 60", x.held(0), 10);
        x.bank(0, 1);
        due("held up: 13 * 50 / 60", x.held(0), 11);
        due("held -1", x.held(-1), -1);
        due("held 1", x.held(1), -1);
        due("held least", x.held(Integer.MIN_VALUE), -1);
        due("held most", x.held(Integer.MAX_VALUE), -1);
        PaperStates y = agreed(10);
        y.bank(0, 99);
        y.move(0, 10, 3);
        y.day(3);
        y.event(0, TAKE, 0);
        y.event(0, RECEIVE, 0);
        due("held until recovered", y.held(0), 99);
        y.mark(0, 0, 1);
        due("held when marked", y.held(0), 99);
        y.event(0, RECOVER, 0);
        due("held when all is recovered", y.held(0), 0);
        PaperStates z = agreed(1);
        z.bank(0, 77);
        due("held of one gram", z.held(0), 77);
    }

    private static void heldLarge() {
        PaperStates x = agreed(1000000000L);
        for (int i = 0; i < 10; i++) {
            x.bank(0, 1000000000L);
        }
        due("held of the most cents and grams", x.held(0), 10000000000L);
        x.move(0, 1, 3);
        x.day(3);
        x.event(0, TAKE, 0);
        x.event(0, RECEIVE, 0);
        x.mark(0, 0, 1);
        x.event(0, RECOVER, 0);
        due("held less one gram", x.held(0), 9999999990L);
        PaperStates y = agreed(999999999L);
        for (int i = 0; i < 9; i++) {
            y.bank(0, 1000000000L);
        }
        y.bank(0, 999999999L);
        y.move(0, 2, 3);
        y.day(3);
        y.event(0, TAKE, 0);
        y.event(0, RECEIVE, 0);
        y.mark(0, 0, 1);
        y.event(0, RECOVER, 0);
        // 9999999999 * 999999997 / 999999999 = 9999999978.99..
        due("held of odd ones", y.held(0), 9999999979L);
    }

    private static void limit() {
        PaperStates x = inAllStates();
        due("limit -1", x.limit(-1), false);
        due("limit 1001", x.limit(1001), false);
        due("limit least", x.limit(Integer.MIN_VALUE), false);
        due("limit most", x.limit(Integer.MAX_VALUE), false);
        x.day(368);
        due("a refused limit changes nothing", x.late(0), -1);
        x.day(369);
        due("and late by the old one", x.late(0), 2);
        due("limit 1000", x.limit(1000), true);
        due("late by 1000", x.late(0), -1);
        x.day(1003);
        due("late on day 1003", x.late(0), -1);
        x.day(1004);
        due("late on day 1004", x.late(0), 2);
        PaperStates y = inAllStates();
        due("limit 0", y.limit(0), true);
        due("not late on the same day", y.late(0), -1);
        y.day(4);
        due("late a day behind", y.late(0), 2);
    }

    private static void late() {
        PaperStates x = agreed(100);
        for (int m = 0; m < 12; m++) {
            x.move(0, 1, 3);
        }
        x.day(3);
        for (int m = 11; m >= 0; m--) {
            x.event(m, TAKE, 0);
            if (m % 4 != 1) {
                x.event(m, RECEIVE, 0);
            }
        }
        x.limit(5);
        x.day(8);
        due("late at the limit", x.late(0), -1);
        x.day(9);
        int[] want = {0, 2, 3, 4, 6, 7, 8, 10, 11};
        for (int k = 0; k < want.length; k++) {
            due("late " + k, x.late(k), want[k]);
        }
        due("late 9", x.late(9), -1);
        due("late -1", x.late(-1), -1);
        due("late least", x.late(Integer.MIN_VALUE), -1);
        due("late most", x.late(Integer.MAX_VALUE), -1);
        x.mark(2, 0, 1);
        due("late when marked", x.late(1), 2);
        x.event(2, RECOVER, 0);
        due("late without the recovered", x.late(1), 3);
        x.event(3, RETURN, 0);
        due("late without the returned", x.late(1), 4);
    }

    private static void lateSinceReceived() {
        PaperStates x = agreed(100);
        x.move(0, 1, 3);
        x.move(0, 1, 3);
        x.limit(2);
        x.day(3);
        x.event(0, TAKE, 0);
        x.event(1, TAKE, 0);
        x.day(10);
        due("late when taken", x.late(0), -1);
        x.event(1, RECEIVE, 0);
        x.day(12);
        x.event(0, RECEIVE, 0);
        due("late on the second day", x.late(0), -1);
        x.day(13);
        due("late since it was received", x.late(0), 1);
        due("the other is not yet", x.late(1), -1);
        x.event(1, RECEIVE, 0);
        due("a refused event does not renew it", x.late(0), 1);
        x.day(15);
        due("both late, by number", x.late(0), 0);
        due("both late, the second", x.late(1), 1);
    }

    private static void carrier() {
        for (int m = 0; m < 6; m++) {
            due("carrier in state " + m, inAllStates().carrier(m, 5), m == 1 ? 1 : -1);
        }
        PaperStates x = inAllStates();
        int[] out = {-1, 100, Integer.MIN_VALUE, Integer.MAX_VALUE};
        for (int w : out) {
            due("carrier " + w, x.carrier(1, w), -1);
            due("carrier of move " + w, x.carrier(w, 5), -1);
        }
        due("carrier of move 6", x.carrier(6, 5), -1);
        due("no carrier by refused ones", x.back(1, 0), -1);
        due("carrier 0", x.carrier(1, 0), 1);
        due("carrier 0 again", x.carrier(1, 0), -1);
        due("carrier -1 behind another", x.carrier(1, -1), -1);
        due("carrier 99", x.carrier(1, 99), 2);
        due("carrier 0 later", x.carrier(1, 0), 3);
        due("carrier 4", x.carrier(1, 4), 4);
        due("carrier 5", x.carrier(1, 5), 5);
        due("carrier 6", x.carrier(1, 6), 6);
        due("carrier 7", x.carrier(1, 7), -1);
        due("the latest stays", x.back(1, 0), 6);
    }

    private static void back() {
        PaperStates x = inAllStates();
        due("back without carriers", x.back(1, 0), -1);
        int[] row = {3, 0, 3, 99, 1, 2};
        for (int c : row) {
            x.carrier(1, c);
        }
        for (int k = 0; k < 6; k++) {
            due("back " + k, x.back(1, k), row[5 - k]);
        }
        due("back 6", x.back(1, 6), -1);
        due("back -1", x.back(1, -1), -1);
        due("back least", x.back(1, Integer.MIN_VALUE), -1);
        due("back most", x.back(1, Integer.MAX_VALUE), -1);
        due("back of move -1", x.back(-1, 0), -1);
        due("back of move 6", x.back(6, 0), -1);
        due("back of another move", x.back(2, 0), -1);
        x.event(1, RECEIVE, 0);
        due("back when received", x.back(1, 5), 3);
        due("carrier when received", x.carrier(1, 50), -1);
    }

    private static void print() {
        PaperStates x = inAllStates();
        duePaper("all states", x, 0, "0 60 0 1000 1,0:10t,1:10k,2:10v,3:10c,4:10r,5:10x");
        x.notice(305, 7, 90);
        duePaper("no moves", x, 1, "1 305 7 90 0");
        x.country(1, 0, 2);
        x.says(1, 0, true);
        x.move(1, 100, 10);
        x.move(0, 20, 10);
        duePaper("moves of others are left out", x, 1, "1 305 7 90 1,6:100t");
        duePaper("and a later one is there", x, 0,
            "0 60 0 1000 1,0:10t,1:10k,2:10v,3:10c,4:10r,5:10x,7:20t");
        x.country(1, 1, 2);
        x.says(1, 1, false);
        duePaper("refused", x, 1, "1 305 7 90 2,6:100t");
        due("print -1", x.print(1, -1), -1);
        due("print least", x.print(1, Integer.MIN_VALUE), -1);
        due("print most", x.print(1, Integer.MAX_VALUE), -1);
        due("print its last", x.print(1, 18), 't');
        due("print behind it", x.print(1, 19), -1);
        due("print of notice -1", x.print(-1, 0), -1);
        due("print of notice 2", x.print(2, 0), -1);
        due("print of notice most", x.print(Integer.MAX_VALUE, 0), -1);
    }

    private static void printLongest() {
        PaperStates x = new PaperStates();
        x.notice(1000000000L, 100000, 100000);
        duePaper("longest head", x, 0, "0 1000000000 100000 100000 0");
        x.country(0, 0, 0);
        x.says(0, 0, true);
        x.right(0, CANCEL, true);
        StringBuilder want = new StringBuilder("0 1000000000 100000 100000 1");
        for (int m = 0; m < 12; m++) {
            x.move(0, 1000000000L, 100000);
            x.event(m, CANCEL, 0);
            want.append(',').append(m).append(":1000000000x");
        }
        duePaper("longest paper", x, 0, want.toString());
        PaperStates y = agreed(50);
        y.move(0, 50, 10);
        y.day(1001);
        duePaper("lapsed", y, 0, "0 50 0 1000 3,0:50t");
        PaperStates z = agreed(101);
        z.move(0, 101, 10);
        duePaper("zeros inside", z, 0, "0 101 0 1000 1,0:101t");
    }

    private static void objectsAreApart() {
        PaperStates x = inAllStates();
        PaperStates y = new PaperStates();
        due("another object has no notice", y.state(0), -1);
        due("nor rights", y.may(0, 0), false);
        due("nor today", y.day(1), 0);
        y.limit(0);
        x.day(300);
        due("nor its limit", x.late(0), -1);
    }
}
