import java.math.BigInteger;
import java.util.ArrayList;
import java.util.HashMap;
import java.util.HashSet;
import java.util.List;
import java.util.Map;
import java.util.Random;
import java.util.Set;

/**
 * Long runs of calls, the same each time, on PaperStates and on a second writing of the document.
 * The second one keeps what was told, and works out every state from it when it is asked.
 */
public final class PaperStatesModel {
    private static final int RUNS = 5000;
    /** Few enough that one whole paper can be read behind them, within an object's 512 calls. */
    private static final int CALLS = 260;
    private static final int[] ODD = {-1, -2, 5, 6, 7, 8, 11, 12, 13, 99, 100, 1000, 1001, 100000, 100001,
        Integer.MIN_VALUE, Integer.MAX_VALUE, Integer.MIN_VALUE + 1, Integer.MAX_VALUE - 2};
    private static final long[] ODD_LONGS = {-1, 0, 1, 999999999L, 1000000000L, 1000000001L, 4294967297L,
        10000000000L, Long.MIN_VALUE, Long.MAX_VALUE};

    public static void main(String[] args) {
        int[] answers = new int[16];
        for (int run = 0; run < RUNS; run++) {
            Random dice = new Random(run);
            PaperStates x = new PaperStates();
            Model y = new Model();
            List<String> calls = new ArrayList<>();
            if (run % 4 != 0) {
                prepare(dice, x, y, calls);
            }
            for (int i = 0; i < CALLS; i++) {
                if (!sameAnswer(dice, x, y, calls, answers)) {
                    System.out.println("run " + run + ", call " + i + ":");
                    calls.forEach(System.out::println);
                    System.exit(1);
                }
            }
            int n = dice.nextInt(Math.max(1, y.notices.size()));
            String paper = paperOf(x, n);
            if (!paper.equals(y.paper(n))) {
                System.out.println("run " + run + ": '" + paper + "', due is '" + y.paper(n) + "'");
                System.exit(1);
            }
        }
        // A model test that seldom gets to the later states would say little.
        for (int state = -5; state <= 5; state++) {
            if (state != 0 && answers[state + 10] < 500) {
                System.out.println(answers[state + 10] + " events alone answered " + state);
                System.exit(1);
            }
        }
        System.out.println("all runs are as the model's");
    }

    /** Agreed notices and some rights, because dice alone seldom get a move as far as recovered. */
    private static void prepare(Random dice, PaperStates x, Model y, List<String> calls) {
        for (int n = 0; n < 2; n++) {
            long grams = 1 + dice.nextInt(dice.nextBoolean() ? 1000000000 : 60);
            calls.add("notice(" + grams + ", 0, 1500) " + x.notice(grams, 0, 1500) + " " + y.notice(grams, 0, 1500));
            calls.add("country(" + n + ", 0, 3) " + x.country(n, 0, 3) + " " + y.country(n, 0, 3));
            calls.add("says(" + n + ", 0, true) " + x.says(n, 0, true) + " " + y.says(n, 0, true));
        }
        for (int p = 0; p < 3; p++) {
            for (int e = 0; e < 5; e++) {
                calls.add("right(" + p + ", " + e + ", true) " + x.right(p, e, true) + " " + y.right(p, e, true));
            }
        }
    }

    private static String paperOf(PaperStates x, int n) {
        StringBuilder text = new StringBuilder();
        int next = x.print(n, 0);
        for (int i = 1; i < 400 && next >= 0; i++) {
            text.append((char) next);
            next = x.print(n, i);
        }
        return text.toString();
    }

    private static int some(Random dice, int below) {
        return dice.nextInt(40) == 0 ? ODD[dice.nextInt(ODD.length)] : dice.nextInt(below);
    }

    private static long someGrams(Random dice, long below) {
        if (dice.nextInt(20) == 0) {
            return ODD_LONGS[dice.nextInt(ODD_LONGS.length)];
        }
        return 1 + Math.floorMod(dice.nextLong(), dice.nextBoolean() ? below : 1 + below / 6);
    }

    private static boolean sameAnswer(Random dice, PaperStates x, Model y, List<String> calls, int[] answers) {
        int n = some(dice, Math.max(1, y.notices.size()));
        int m = some(dice, Math.max(1, y.moves.size()));
        int p = some(dice, dice.nextBoolean() ? 3 : 8);
        int e = some(dice, 5);
        long got;
        long due;
        String call;
        switch (dice.nextInt(24)) {
            case 0: {
                int ahead = some(dice, dice.nextInt(20) == 0 ? 400 : 5);
                int now = y.today + ahead - (dice.nextInt(9) == 0 ? 1 : 0);
                call = "day(" + now + ")";
                got = x.day(now);
                due = y.day(now);
                break;
            }
            case 1: {
                if (dice.nextInt(3) != 0) {
                    return true;
                }
                long g = someGrams(dice, dice.nextBoolean() ? 1000000000L : 60);
                int from = some(dice, 100);
                int to = from + some(dice, 1500) - dice.nextInt(2);
                call = "notice(" + g + ", " + from + ", " + to + ")";
                got = x.notice(g, from, to);
                due = y.notice(g, from, to);
                break;
            }
            case 2: {
                if (dice.nextInt(3) != 0) {
                    return true;
                }
                int c = some(dice, 6);
                int days = some(dice, dice.nextInt(5) == 0 ? 1001 : 9);
                call = "country(" + n + ", " + c + ", " + days + ")";
                got = x.country(n, c, days) ? 1 : 0;
                due = y.country(n, c, days);
                break;
            }
            case 3: {
                int c = some(dice, 6);
                boolean yes = dice.nextInt(40) != 0;
                call = "says(" + n + ", " + c + ", " + yes + ")";
                got = x.says(n, c, yes) ? 1 : 0;
                due = y.says(n, c, yes);
                break;
            }
            case 4:
                call = "state(" + n + ")";
                got = x.state(n);
                due = y.state(n);
                break;
            case 5:
            case 6: {
                long all = n >= 0 && n < y.notices.size() ? y.notices.get(n).grams : 10;
                long g = someGrams(dice, Math.max(1, all));
                int d = y.today + some(dice, dice.nextBoolean() ? 5 : 100);
                call = "move(" + n + ", " + g + ", " + d + ")";
                got = x.move(n, g, d);
                due = y.move(n, g, d);
                break;
            }
            case 7:
                call = "moveState(" + m + ")";
                got = x.moveState(m);
                due = y.moveState(m);
                break;
            case 8:
            case 9: {
                boolean on = dice.nextInt(8) != 0;
                call = "right(" + p + ", " + e + ", " + on + ")";
                got = x.right(p, e, on) ? 1 : 0;
                due = y.right(p, e, on);
                break;
            }
            case 10:
                call = "may(" + p + ", " + e + ")";
                got = x.may(p, e) ? 1 : 0;
                due = y.may(p, e);
                break;
            case 11:
            case 12:
            case 13:
            case 14:
                e = y.moveState(m) >= 0 && y.moveState(m) < 3 && dice.nextInt(3) != 0 ? y.moveState(m) : e;
                call = "event(" + m + ", " + e + ", " + p + ")";
                got = x.event(m, e, p);
                due = y.event(m, e, p);
                answers[(int) due + 10]++;
                break;
            case 15:
            case 16: {
                int b = some(dice, 3);
                call = "mark(" + m + ", " + p + ", " + b + ")";
                got = x.mark(m, p, b) ? 1 : 0;
                due = y.mark(m, p, b);
                break;
            }
            case 17:
                call = "left(" + n + ")";
                got = x.left(n);
                due = y.left(n);
                break;
            case 18: {
                long cents = someGrams(dice, dice.nextInt(3) == 0 ? 100 : 1000000000L);
                call = "bank(" + n + ", " + cents + ")";
                got = x.bank(n, cents) ? 1 : 0;
                due = y.bank(n, cents);
                break;
            }
            case 19:
                call = "held(" + n + ")";
                got = x.held(n);
                due = y.held(n);
                break;
            case 20: {
                int days = some(dice, dice.nextInt(5) == 0 ? 1001 : 9);
                call = "limit(" + days + ")";
                got = x.limit(days) ? 1 : 0;
                due = y.limit(days);
                break;
            }
            case 21: {
                int k = some(dice, 3);
                call = "late(" + k + ")";
                got = x.late(k);
                due = y.late(k);
                break;
            }
            case 22: {
                int c = some(dice, dice.nextBoolean() ? 3 : 100);
                call = "carrier(" + m + ", " + c + ")";
                got = x.carrier(m, c);
                due = y.carrier(m, c);
                if (got == due) {
                    int k = some(dice, 7);
                    call = "back(" + m + ", " + k + ")";
                    got = x.back(m, k);
                    due = y.back(m, k);
                }
                break;
            }
            default: {
                int i = some(dice, 60);
                call = "print(" + n + ", " + i + ")";
                got = x.print(n, i);
                due = y.print(n, i);
                break;
            }
        }
        calls.add(call + " answered " + got + ", due is " + due);
        return got == due;
    }

    private static final class Country {
        int asked;
        int days;
        int saidOn = -1;
        boolean yes;
    }

    private static final class Notice {
        long grams;
        int from;
        int to;
        BigInteger cents = BigInteger.ZERO;
        Map<Integer, Country> countries = new HashMap<>();
    }

    private static final class Step {
        String state;
        int on;

        Step(String state, int on) {
            this.state = state;
            this.on = on;
        }
    }

    private static final class Move {
        Notice of;
        long grams;
        int day;
        boolean marked;
        List<Step> steps = new ArrayList<>();
        List<Integer> carriers = new ArrayList<>();

        String state() {
            return steps.get(steps.size() - 1).state;
        }
    }

    private static final class Model {
        static final List<String> STATES = List.of("told", "taken", "received", "recovered", "returned", "cancelled");
        static final List<String> EVENTS = List.of("take", "receive", "recover", "return", "cancel");
        static final Map<String, String> TABLE = Map.of(
            "take told", "taken",
            "receive taken", "received",
            "recover received", "recovered",
            "return taken", "returned",
            "return received", "returned",
            "cancel told", "cancelled");

        final List<Notice> notices = new ArrayList<>();
        final List<Move> moves = new ArrayList<>();
        final Set<String> rights = new HashSet<>();
        int today = 0;
        int limit = 365;

        boolean noNotice(int n) {
            return n < 0 || n >= notices.size();
        }

        boolean noMove(int m) {
            return m < 0 || m >= moves.size();
        }

        boolean stillAsked(Country c, int on) {
            return c.saidOn < 0 && !((long) on - c.asked > c.days);
        }

        int asked() {
            int count = 0;
            for (Notice n : notices) {
                for (Country c : n.countries.values()) {
                    count += stillAsked(c, today) ? 1 : 0;
                }
            }
            return count;
        }

        int day(int now) {
            if (now < today || now > 100000) {
                return -1;
            }
            int before = asked();
            today = now;
            return before - asked();
        }

        int notice(long grams, int from, int to) {
            boolean fine = grams >= 1 && grams <= 1000000000L && 0 <= from && from <= to && to <= 100000;
            if (!fine || notices.size() == 6) {
                return -1;
            }
            Notice n = new Notice();
            n.grams = grams;
            n.from = from;
            n.to = to;
            notices.add(n);
            return notices.size() - 1;
        }

        int country(int n, int c, int days) {
            if (noNotice(n) || c < 0 || c > 5 || days < 0 || days > 1000 || notices.get(n).countries.containsKey(c)) {
                return 0;
            }
            Country told = new Country();
            told.asked = today;
            told.days = days;
            notices.get(n).countries.put(c, told);
            return 1;
        }

        int says(int n, int c, boolean yes) {
            Country told = noNotice(n) ? null : notices.get(n).countries.get(c);
            if (told == null || !stillAsked(told, today)) {
                return 0;
            }
            told.saidOn = today;
            told.yes = yes;
            return 1;
        }

        int stateOf(Notice n) {
            boolean refused = false;
            boolean all = !n.countries.isEmpty();
            for (Country c : n.countries.values()) {
                refused |= c.saidOn >= 0 && !c.yes;
                all &= !stillAsked(c, today);
            }
            return refused ? 2 : today > n.to ? 3 : all ? 1 : 0;
        }

        int state(int n) {
            return noNotice(n) ? -1 : stateOf(notices.get(n));
        }

        long leftOf(Notice n) {
            long rest = n.grams;
            for (Move m : moves) {
                if (m.of == n && !m.state().equals("returned") && !m.state().equals("cancelled")) {
                    rest -= m.grams;
                }
            }
            return rest;
        }

        int move(int n, long grams, int day) {
            if (noNotice(n) || grams < 1 || moves.size() == 12) {
                return -1;
            }
            Notice of = notices.get(n);
            if (day < of.from || day > of.to || (long) day - today < 3) {
                return -1;
            }
            if (stateOf(of) != 1) {
                return -2;
            }
            if (leftOf(of) < grams) {
                return -3;
            }
            Move m = new Move();
            m.of = of;
            m.grams = grams;
            m.day = day;
            m.steps.add(new Step("told", today));
            moves.add(m);
            return moves.size() - 1;
        }

        int moveState(int m) {
            return noMove(m) ? -1 : STATES.indexOf(moves.get(m).state());
        }

        int right(int p, int e, boolean on) {
            if (p < 0 || p > 7 || e < 0 || e > 4) {
                return 0;
            }
            String key = p + " " + EVENTS.get(e);
            if (on) {
                rights.add(key);
            } else {
                rights.remove(key);
            }
            return 1;
        }

        int may(int p, int e) {
            return e >= 0 && e < 5 && rights.contains(p + " " + EVENTS.get(e)) ? 1 : 0;
        }

        int event(int move, int e, int p) {
            if (noMove(move) || e < 0 || e > 4 || p < 0 || p > 7) {
                return -1;
            }
            if (may(p, e) == 0) {
                return -2;
            }
            Move m = moves.get(move);
            String next = TABLE.get(EVENTS.get(e) + " " + m.state());
            if (next == null) {
                return -3;
            }
            if (next.equals("taken") && (today < m.day || stateOf(m.of) != 1)) {
                return -4;
            }
            if (next.equals("recovered") && !m.marked) {
                return -5;
            }
            m.steps.add(new Step(next, today));
            return STATES.indexOf(next);
        }

        int mark(int m, int a, int b) {
            boolean fine = !noMove(m) && moves.get(m).state().equals("received") && !moves.get(m).marked
                && a != b && may(a, 2) == 1 && may(b, 2) == 1;
            if (fine) {
                moves.get(m).marked = true;
            }
            return fine ? 1 : 0;
        }

        long left(int n) {
            return noNotice(n) ? -1 : leftOf(notices.get(n));
        }

        int bank(int n, long cents) {
            if (noNotice(n) || cents < 1 || cents > 1000000000L) {
                return 0;
            }
            BigInteger sum = notices.get(n).cents.add(BigInteger.valueOf(cents));
            if (sum.compareTo(BigInteger.valueOf(10000000000L)) > 0) {
                return 0;
            }
            notices.get(n).cents = sum;
            return 1;
        }

        long held(int n) {
            if (noNotice(n)) {
                return -1;
            }
            Notice of = notices.get(n);
            BigInteger rest = BigInteger.valueOf(of.grams);
            for (Move m : moves) {
                if (m.of == of && m.state().equals("recovered")) {
                    rest = rest.subtract(BigInteger.valueOf(m.grams));
                }
            }
            BigInteger[] share = of.cents.multiply(rest).divideAndRemainder(BigInteger.valueOf(of.grams));
            return share[0].longValueExact() + share[1].signum();
        }

        int limit(int days) {
            if (days < 0 || days > 1000) {
                return 0;
            }
            limit = days;
            return 1;
        }

        int late(int k) {
            List<Integer> all = new ArrayList<>();
            for (int m = 0; m < moves.size(); m++) {
                List<Step> steps = moves.get(m).steps;
                Step last = steps.get(steps.size() - 1);
                if (last.state.equals("received") && last.on + limit < today) {
                    all.add(m);
                }
            }
            return k < 0 || k >= all.size() ? -1 : all.get(k);
        }

        int carrier(int m, int c) {
            if (noMove(m) || c < 0 || c > 99 || !moves.get(m).state().equals("taken")) {
                return -1;
            }
            List<Integer> row = moves.get(m).carriers;
            if (row.size() == 6 || !row.isEmpty() && row.get(0) == c) {
                return -1;
            }
            row.add(0, c);
            return row.size();
        }

        int back(int m, int k) {
            return noMove(m) || k < 0 || k >= moves.get(m).carriers.size() ? -1 : moves.get(m).carriers.get(k);
        }

        String paper(int n) {
            if (noNotice(n)) {
                return "";
            }
            Notice of = notices.get(n);
            String text = n + " " + of.grams + " " + of.from + " " + of.to + " " + stateOf(of);
            for (int m = 0; m < moves.size(); m++) {
                if (moves.get(m).of == of) {
                    text += "," + m + ":" + moves.get(m).grams + "tkvcrx".charAt(moveState(m));
                }
            }
            return text;
        }

        int print(int n, int i) {
            String text = paper(n);
            return i < 0 || i >= text.length() ? -1 : text.charAt(i);
        }
    }
}
