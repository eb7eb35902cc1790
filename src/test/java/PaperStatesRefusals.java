import java.util.ArrayList;
import java.util.List;
import java.util.function.Supplier;
import java.util.function.ToLongFunction;

/**
 * Terms: 'A call that is refused changes nothing.' For each kind of refused call two like objects are
 * made; one of them is given the call, and then both are asked all that the face can tell: the
 * answers of the methods that only look, and what a long run of changing calls answers after it
 * (which shows today, the limit, the days of the countries, the marks and the cents paid in).
 */
public final class PaperStatesRefusals {
    private static final int LEAST = Integer.MIN_VALUE;
    private static final int MOST = Integer.MAX_VALUE;
    private static final int TAKE = 0;
    private static final int RECEIVE = 1;
    private static final int RECOVER = 2;
    private static final int RETURN = 3;
    private static final int CANCEL = 4;
    /** The document promises nothing behind an object's 512th call; 67 calls make the dearest object here, and 2 are refused. */
    private static final int CALLS = 512;
    private static final int CALLS_BEFORE = 69;

    private static Supplier<PaperStates> made = PaperStates::new;
    private static List<String> before = List.of();
    private static String on = "";
    private static int kinds = 0;
    private static int wrong = 0;

    public static void main(String[] args) {
        on("a new object", PaperStates::new);
        refusedOnANewObject();
        on("a busy object", PaperStatesRefusals::busy);
        refusedDays();
        refusedNotices();
        refusedCountries();
        refusedSayings();
        refusedMoves();
        refusedRights();
        refusedEvents();
        refusedMarks();
        refusedPayments();
        refusedLimits();
        refusedCarriers();
        refusedLooks();
        on("a full object", PaperStatesRefusals::full);
        refusedWhenFull();
        on("an object on its last day", PaperStatesRefusals::onTheLastDay);
        refusedOnTheLastDay();
        System.out.println(kinds + " kinds of refused calls, " + wrong + " answers not as due");
        if (wrong != 0) {
            System.exit(1);
        }
    }

    private static void on(String name, Supplier<PaperStates> maker) {
        on = name;
        made = maker;
        before = answers(maker.get());
        if (before.size() + CALLS_BEFORE > CALLS) {
            tell("asks " + before.size() + " calls, too many for one object");
        }
        if (!before.equals(answers(maker.get()))) {
            tell("is not the same each time");
        }
    }

    private static void tell(String text) {
        wrong++;
        System.out.println(on + ": " + text);
    }

    private static long bit(boolean answer) {
        return answer ? 1 : 0;
    }

    /** The call is refused with this answer, and all other answers are as before it, once and when it is said twice. */
    private static void refused(String call, long want, ToLongFunction<PaperStates> asked) {
        kinds++;
        PaperStates x = made.get();
        for (int time = 0; time < 2; time++) {
            long got = asked.applyAsLong(x);
            if (got != want) {
                tell(call + " answered " + got + ", due is " + want);
            }
        }
        List<String> after = answers(x);
        for (int i = 0; i < before.size(); i++) {
            if (!before.get(i).equals(after.get(i))) {
                tell("behind " + call + ": " + after.get(i) + ", due is " + before.get(i));
                return;
            }
        }
    }

    private static List<String> answers(PaperStates x) {
        List<String> said = new ArrayList<>();
        look(x, said);
        goOn(x, said);
        return said;
    }

    private static void look(PaperStates x, List<String> said) {
        for (int n = 0; n < 7; n++) {
            said.add("state(" + n + ") " + x.state(n));
            said.add("left(" + n + ") " + x.left(n));
            said.add("held(" + n + ") " + x.held(n));
            lookAtPaper(x, n, said);
        }
        for (int m = 0; m < 13; m++) {
            said.add("moveState(" + m + ") " + x.moveState(m));
            said.add("back(" + m + ", 0) " + x.back(m, 0));
        }
        for (int k = 1; k < 7; k++) {
            said.add("back(1, " + k + ") " + x.back(1, k));
        }
        for (int i = 0; i < 40; i++) {
            said.add("may(" + i / 5 + ", " + i % 5 + ") " + x.may(i / 5, i % 5));
        }
        for (int k = 0; k < 3; k++) {
            said.add("late(" + k + ") " + x.late(k));
        }
    }

    /** Papers are asked for up to their end, to spare calls. */
    private static void lookAtPaper(PaperStates x, int n, List<String> said) {
        int last = 0;
        for (int i = 0; i < 100 && last != PaperStates.NONE; i++) {
            last = x.print(n, i);
            said.add("print(" + n + ", " + i + ") " + last);
        }
    }

    /** What a refused call might have changed inside, brought to light by calls that go on from there. */
    private static void goOn(PaperStates x, List<String> said) {
        said.add("carrier(1, 9) " + x.carrier(1, 9));
        said.add("carrier(1, 8) " + x.carrier(1, 8));
        for (int m = 0; m < 9; m++) {
            said.add("event(" + m + ", recover, 0) " + x.event(m, RECOVER, 0));
        }
        goOnWithMove(x, 0, said);
        goOnWithMove(x, 1, said);
        for (int now = 4; now <= 12; now++) {
            said.add("day(" + now + ") " + x.day(now));
            said.add("late(0) then " + x.late(0));
        }
        goOnWithNotices(x, said);
        said.add("day(371) " + x.day(371));
        said.add("late(0) then " + x.late(0));
        goOnWithMove(x, 7, said);
        said.add("move(0, 1, 500) " + x.move(0, 1, 500));
        goOnWithOneMore(x, said);
    }

    private static void goOnWithMove(PaperStates x, int m, List<String> said) {
        for (int e = TAKE; e <= RECOVER; e++) {
            said.add("event(" + m + ", " + e + ", 0) then " + x.event(m, e, 0));
        }
    }

    private static void goOnWithNotices(PaperStates x, List<String> said) {
        for (int n = 0; n < 6; n++) {
            said.add("bank(" + n + ", 999999990) " + x.bank(n, 999999990L));
            said.add("held(" + n + ") then " + x.held(n));
            said.add("says(" + n + ", 2, true) " + x.says(n, 2, true));
            said.add("country(" + n + ", 5, 0) " + x.country(n, 5, 0));
        }
    }

    /** A notice and a move from their beginning up to late, for objects that had none. */
    private static void goOnWithOneMore(PaperStates x, List<String> said) {
        int n = x.notice(50, 0, 100000);
        said.add("one more notice " + n);
        said.add("its country " + x.country(n, 0, 0));
        said.add("says " + x.says(n, 0, true));
        said.add("right to take " + x.right(0, TAKE, true));
        said.add("right to receive " + x.right(0, RECEIVE, true));
        int m = x.move(n, 50, 374);
        said.add("its move " + m);
        said.add("day(374) " + x.day(374));
        said.add("take it " + x.event(m, TAKE, 0));
        said.add("receive it " + x.event(m, RECEIVE, 0));
        int[] behind = {3, 4, 365, 366, 1000, 1001};
        for (int days : behind) {
            said.add("day " + days + " behind it " + x.day(374 + days));
            said.add("late(0) then " + x.late(0));
        }
    }

    /**
     * Moves in all states, a marked one and one for a later day, notices of all states with countries
     * that are still asked, cents, rights, carriers and a limit; today is 5.
     */
    private static PaperStates busy() {
        PaperStates x = new PaperStates();
        x.notice(100, 0, 1000);
        x.notice(50, 2, 700);
        x.notice(30, 0, 900);
        x.notice(20, 1, 4);
        x.country(0, 0, 9);
        x.says(0, 0, true);
        x.country(1, 1, 7);
        x.country(2, 3, 9);
        x.says(2, 3, false);
        x.country(2, 2, 8);
        x.country(3, 0, 6);
        allRights(x);
        x.right(2, TAKE, true);
        for (int m = 0; m < 7; m++) {
            x.move(0, 10, 3);
        }
        x.move(0, 5, 30);
        x.day(3);
        toAllStates(x);
        x.event(6, TAKE, 0);
        x.event(6, RECEIVE, 1);
        x.mark(6, 0, 1);
        x.carrier(1, 8);
        x.carrier(1, 40);
        x.bank(0, 77);
        x.bank(1, 1000);
        x.limit(3);
        x.day(5);
        x.country(1, 0, 3);
        return x;
    }

    private static void allRights(PaperStates x) {
        for (int e = 0; e < 5; e++) {
            x.right(0, e, true);
            x.right(1, e, true);
        }
    }

    /** Moves 0 to 5 that are told go to the state that is their number. */
    private static void toAllStates(PaperStates x) {
        for (int m = 1; m < 5; m++) {
            x.event(m, TAKE, 0);
        }
        x.event(2, RECEIVE, 0);
        x.event(3, RECEIVE, 0);
        x.mark(3, 0, 1);
        x.event(3, RECOVER, 0);
        x.event(4, RETURN, 0);
        x.event(5, CANCEL, 0);
    }

    /** All places taken: notices, moves, the countries of notice 0, the carriers of move 1, the cents of notice 0. */
    private static PaperStates full() {
        PaperStates x = new PaperStates();
        for (int n = 0; n < 6; n++) {
            x.notice(20, 0, 1000);
        }
        for (int c = 0; c < 6; c++) {
            x.country(0, c, 9);
            x.says(0, c, true);
        }
        allRights(x);
        for (int m = 0; m < 12; m++) {
            x.move(0, 1, 3);
        }
        x.day(3);
        toAllStates(x);
        for (int c = 1; c <= 6; c++) {
            x.carrier(1, c);
        }
        for (int i = 0; i < 10; i++) {
            x.bank(0, 1000000000L);
        }
        return x;
    }

    private static PaperStates onTheLastDay() {
        PaperStates x = new PaperStates();
        x.notice(100, 0, 100000);
        x.country(0, 0, 9);
        x.says(0, 0, true);
        allRights(x);
        for (int m = 0; m < 6; m++) {
            x.move(0, 10, 3);
        }
        x.day(3);
        toAllStates(x);
        x.day(100000);
        x.country(0, 1, 1000);
        return x;
    }

    private static void refusedOnANewObject() {
        refused("Promise 2: day(-1)", -1, x -> x.day(-1));
        refused("Promise 2: day(100001)", -1, x -> x.day(100001));
        refused("Promise 3: notice(0, 0, 0)", -1, x -> x.notice(0, 0, 0));
        refused("Promise 3: notice(1, 1, 0)", -1, x -> x.notice(1, 1, 0));
        refused("Promise 4: country(0, 0, 0)", 0, x -> bit(x.country(0, 0, 0)));
        refused("Promise 5: says(0, 0, true)", 0, x -> bit(x.says(0, 0, true)));
        refused("Promise 6: state(0)", -1, x -> x.state(0));
        refused("Promise 7: move(0, 1, 3)", -1, x -> x.move(0, 1, 3));
        refused("Promise 8: moveState(0)", -1, x -> x.moveState(0));
        refused("Promise 9: right(8, 0, true)", 0, x -> bit(x.right(8, 0, true)));
        refused("Promise 10: may(8, 0)", 0, x -> bit(x.may(8, 0)));
        refused("Promise 11: event(0, 0, 0)", -1, x -> x.event(0, 0, 0));
        refused("Promise 12: mark(0, 0, 1)", 0, x -> bit(x.mark(0, 0, 1)));
        refused("Promise 13: left(0)", -1, x -> x.left(0));
        refused("Promise 14: bank(0, 1)", 0, x -> bit(x.bank(0, 1)));
        refused("Promise 15: held(0)", -1, x -> x.held(0));
        refused("Promise 16: limit(1001)", 0, x -> bit(x.limit(1001)));
        refused("Promise 17: late(0)", -1, x -> x.late(0));
        refused("Promise 18: carrier(0, 0)", -1, x -> x.carrier(0, 0));
        refused("Promise 19: back(0, 0)", -1, x -> x.back(0, 0));
        refused("Promise 20: print(0, 0)", -1, x -> x.print(0, 0));
    }

    private static void refusedDays() {
        int[] days = {4, 0, -1, 100001, LEAST, MOST};
        for (int d : days) {
            refused("Promise 2: day(" + d + ")", -1, x -> x.day(d));
        }
    }

    private static void refusedNotices() {
        long[] grams = {0, -1, 1000000001L, 4294967297L, Long.MIN_VALUE, Long.MAX_VALUE};
        for (long g : grams) {
            refused("Promise 3: notice(" + g + ", 6, 9)", -1, x -> x.notice(g, 6, 9));
        }
        int[][] days = {{-1, 9}, {9, 8}, {0, 100001}, {100001, 100001}, {LEAST, 9}, {9, LEAST}, {0, MOST}, {MOST, MOST}};
        for (int[] d : days) {
            refused("Promise 3: notice(5, " + d[0] + ", " + d[1] + ")", -1, x -> x.notice(5, d[0], d[1]));
        }
    }

    private static void refusedCountries() {
        int[] none = {-1, 4, 6, LEAST, MOST};
        for (int n : none) {
            refused("Promise 4: country(" + n + ", 2, 1)", 0, x -> bit(x.country(n, 2, 1)));
        }
        int[] names = {-1, 6, LEAST, MOST};
        for (int c : names) {
            refused("Promise 4: country(1, " + c + ", 1)", 0, x -> bit(x.country(1, c, 1)));
            refused("Promise 4: country(0, " + c + ", 1)", 0, x -> bit(x.country(0, c, 1)));
        }
        int[] days = {-1, 1001, LEAST, MOST};
        for (int d : days) {
            refused("Promise 4: country(1, 2, " + d + ")", 0, x -> bit(x.country(1, 2, d)));
            refused("Promise 4: country(1, 1, " + d + ")", 0, x -> bit(x.country(1, 1, d)));
        }
        refused("Promise 4: country(1, 1, 0), which is asked", 0, x -> bit(x.country(1, 1, 0)));
        refused("Promise 4: country(1, 1, 1000), which is asked", 0, x -> bit(x.country(1, 1, 1000)));
        refused("Promise 4: country(0, 0, 1000), which agreed", 0, x -> bit(x.country(0, 0, 1000)));
        refused("Promise 4: country(2, 3, 0), which refused", 0, x -> bit(x.country(2, 3, 0)));
    }

    private static void refusedSayings() {
        boolean[] both = {true, false};
        int[] none = {-1, 4, 6, LEAST, MOST};
        int[] names = {-1, 2, 6, LEAST, MOST};
        for (boolean yes : both) {
            for (int n : none) {
                refused("Promise 5: says(" + n + ", 0, " + yes + ")", 0, x -> bit(x.says(n, 0, yes)));
            }
            for (int c : names) {
                refused("Promise 5: says(1, " + c + ", " + yes + ")", 0, x -> bit(x.says(1, c, yes)));
            }
            refused("Promise 5: says(0, 0, " + yes + "), which agreed", 0, x -> bit(x.says(0, 0, yes)));
            refused("Promise 5: says(2, 3, " + yes + "), which refused", 0, x -> bit(x.says(2, 3, yes)));
        }
    }

    private static void refusedMoves() {
        int[] none = {-1, 4, 6, LEAST, MOST};
        for (int n : none) {
            refused("Promise 7: move(" + n + ", 1, 20)", -1, x -> x.move(n, 1, 20));
        }
        long[] grams = {0, -1, Long.MIN_VALUE};
        for (long g : grams) {
            refused("Promise 7: move(0, " + g + ", 20)", -1, x -> x.move(0, g, 20));
        }
        int[] days = {7, 5, 0, -1, 1001, 100001, LEAST, MOST};
        for (int d : days) {
            refused("Promise 7: move(0, 1, " + d + ")", -1, x -> x.move(0, 1, d));
        }
        refused("Promise 7: move(3, 1, 4), lapsed", -1, x -> x.move(3, 1, 4));
        refused("Promise 7: move(1, 1, 20), not agreed", -2, x -> x.move(1, 1, 20));
        refused("Promise 7: move(2, 1, 20), refused", -2, x -> x.move(2, 1, 20));
        refused("Promise 7: move(0, 46, 20), of 45", -3, x -> x.move(0, 46, 20));
        refused("Promise 7: move(0, most, 20)", -3, x -> x.move(0, Long.MAX_VALUE, 20));
    }

    private static void refusedRights() {
        boolean[] both = {true, false};
        int[] persons = {-1, 8, LEAST, MOST};
        int[] events = {-1, 5, LEAST, MOST};
        for (boolean set : both) {
            for (int p : persons) {
                refused("Promise 9: right(" + p + ", 0, " + set + ")", 0, x -> bit(x.right(p, 0, set)));
                refused("Promise 9: right(" + p + ", 4, " + set + ")", 0, x -> bit(x.right(p, 4, set)));
            }
            for (int e : events) {
                refused("Promise 9: right(0, " + e + ", " + set + ")", 0, x -> bit(x.right(0, e, set)));
                refused("Promise 9: right(2, " + e + ", " + set + ")", 0, x -> bit(x.right(2, e, set)));
            }
        }
    }

    private static void refusedEvents() {
        int[] none = {-1, 8, 12, LEAST, MOST};
        for (int w : none) {
            refused("Promise 11: event(" + w + ", take, 0)", -1, x -> x.event(w, TAKE, 0));
            refused("Promise 11: event(0, take, " + w + ")", -1, x -> x.event(0, TAKE, w));
            refused("Promise 11: event(0, " + w + ", 0)", -1, x -> x.event(0, w, 0));
        }
        refused("Promise 11: event(0, 5, 0)", -1, x -> x.event(0, 5, 0));
        int[] ready = {0, 1, 6, 1, 0};
        for (int e = 0; e < 5; e++) {
            int event = e;
            refused("Promise 11: event(" + ready[e] + ", " + e + ", 5), no right", -2, x -> x.event(ready[event], event, 5));
        }
        refusedFromThere();
        refused("Promise 11: event(7, take, 0), before its day", -4, x -> x.event(7, TAKE, 0));
        refused("Promise 11: event(2, recover, 0), no mark", -5, x -> x.event(2, RECOVER, 0));
    }

    /** Moves 0 to 5 are in the state that is their number. */
    private static void refusedFromThere() {
        String[] leads = {"0", "1", "2", "1 2", "0"};
        for (int e = 0; e < 5; e++) {
            for (int s = 0; s < 6; s++) {
                int event = e;
                int move = s;
                if (leads[e].indexOf('0' + s) < 0) {
                    refused("Promise 11: event(" + s + ", " + e + ", 0), from there", -3, x -> x.event(move, event, 0));
                }
            }
        }
    }

    private static void refusedMarks() {
        int[] none = {-1, 8, 12, LEAST, MOST};
        for (int w : none) {
            refused("Promise 12: mark(" + w + ", 0, 1)", 0, x -> bit(x.mark(w, 0, 1)));
            refused("Promise 12: mark(2, 0, " + w + ")", 0, x -> bit(x.mark(2, 0, w)));
            refused("Promise 12: mark(2, " + w + ", 0)", 0, x -> bit(x.mark(2, w, 0)));
        }
        int[] notReceived = {0, 1, 3, 4, 5, 7};
        for (int m : notReceived) {
            refused("Promise 12: mark(" + m + ", 0, 1), not received", 0, x -> bit(x.mark(m, 0, 1)));
        }
        refused("Promise 12: mark(2, 0, 0), the same", 0, x -> bit(x.mark(2, 0, 0)));
        refused("Promise 12: mark(2, 0, 2), no right", 0, x -> bit(x.mark(2, 0, 2)));
        refused("Promise 12: mark(2, 2, 0), no right", 0, x -> bit(x.mark(2, 2, 0)));
        refused("Promise 12: mark(6, 1, 0), marked", 0, x -> bit(x.mark(6, 1, 0)));
    }

    private static void refusedPayments() {
        int[] none = {-1, 4, 6, LEAST, MOST};
        for (int n : none) {
            refused("Promise 14: bank(" + n + ", 1)", 0, x -> bit(x.bank(n, 1)));
        }
        long[] cents = {0, -1, 1000000001L, 4294967297L, Long.MIN_VALUE, Long.MAX_VALUE};
        for (long c : cents) {
            refused("Promise 14: bank(0, " + c + ")", 0, x -> bit(x.bank(0, c)));
            refused("Promise 14: bank(2, " + c + ")", 0, x -> bit(x.bank(2, c)));
        }
    }

    private static void refusedLimits() {
        int[] days = {-1, 1001, LEAST, MOST};
        for (int d : days) {
            refused("Promise 16: limit(" + d + ")", 0, x -> bit(x.limit(d)));
        }
    }

    private static void refusedCarriers() {
        int[] none = {-1, 8, 12, LEAST, MOST};
        for (int m : none) {
            refused("Promise 18: carrier(" + m + ", 3)", -1, x -> x.carrier(m, 3));
        }
        int[] names = {-1, 100, LEAST, MOST};
        for (int c : names) {
            refused("Promise 18: carrier(1, " + c + ")", -1, x -> x.carrier(1, c));
        }
        int[] notTaken = {0, 2, 3, 4, 5, 6, 7};
        for (int m : notTaken) {
            refused("Promise 18: carrier(" + m + ", 3), not taken", -1, x -> x.carrier(m, 3));
        }
        refused("Promise 18: carrier(1, 40), its latest", -1, x -> x.carrier(1, 40));
    }

    private static void refusedLooks() {
        int[] none = {-1, 4, 6, LEAST, MOST};
        for (int w : none) {
            refused("Promise 6: state(" + w + ")", -1, x -> x.state(w));
            refused("Promise 13: left(" + w + ")", -1, x -> x.left(w));
            refused("Promise 15: held(" + w + ")", -1, x -> x.held(w));
            refused("Promise 20: print(" + w + ", 0)", -1, x -> x.print(w, 0));
        }
        int[] noMove = {-1, 8, 12, LEAST, MOST};
        for (int w : noMove) {
            refused("Promise 8: moveState(" + w + ")", -1, x -> x.moveState(w));
            refused("Promise 10: may(" + w + ", 0)", 0, x -> bit(x.may(w, 0)));
            refused("Promise 10: may(0, " + w + ")", 0, x -> bit(x.may(0, w)));
            refused("Promise 17: late(" + w + ")", -1, x -> x.late(w));
            refused("Promise 19: back(" + w + ", 0)", -1, x -> x.back(w, 0));
            refused("Promise 19: back(1, " + w + ")", -1, x -> x.back(1, w));
        }
        int[] noByte = {-1, 300, LEAST, MOST};
        for (int w : noByte) {
            refused("Promise 20: print(0, " + w + ")", -1, x -> x.print(0, w));
        }
    }

    private static void refusedWhenFull() {
        refused("Promise 3: notice(1, 0, 9), a seventh", -1, x -> x.notice(1, 0, 9));
        for (int c = 0; c < 6; c++) {
            int name = c;
            refused("Promise 4: country(0, " + c + ", 0), there already", 0, x -> bit(x.country(0, name, 0)));
            refused("Promise 5: says(0, " + c + ", false), said already", 0, x -> bit(x.says(0, name, false)));
        }
        refused("Promise 7: move(0, 1, 20), a thirteenth", -1, x -> x.move(0, 1, 20));
        refused("Promise 7: move(0, 2, 9), a thirteenth of other grams", -1, x -> x.move(0, 2, 9));
        refused("Promise 7: move(1, 1, 20), a thirteenth of a notice that is not agreed", -1, x -> x.move(1, 1, 20));
        refused("Promise 14: bank(0, 1), beyond all", 0, x -> bit(x.bank(0, 1)));
        refused("Promise 14: bank(0, 1000000000), beyond all", 0, x -> bit(x.bank(0, 1000000000L)));
        refused("Promise 18: carrier(1, 7), a seventh", -1, x -> x.carrier(1, 7));
        refused("Promise 18: carrier(1, 6), a seventh as the latest", -1, x -> x.carrier(1, 6));
        refused("Promise 6: state(6)", -1, x -> x.state(6));
        refused("Promise 8: moveState(12)", -1, x -> x.moveState(12));
        refused("Promise 11: event(12, cancel, 0)", -1, x -> x.event(12, CANCEL, 0));
        refused("Promise 19: back(1, 6)", -1, x -> x.back(1, 6));
    }

    private static void refusedOnTheLastDay() {
        refused("Promise 2: day(99999)", -1, x -> x.day(99999));
        refused("Promise 2: day(100001)", -1, x -> x.day(100001));
        refused("Promise 2: day(most)", -1, x -> x.day(MOST));
        refused("Promise 7: move(0, 1, 100000)", -1, x -> x.move(0, 1, 100000));
        refused("Promise 7: move(0, 1, 100003)", -1, x -> x.move(0, 1, 100003));
        refused("Promise 17: late(1)", -1, x -> x.late(1));
    }
}
