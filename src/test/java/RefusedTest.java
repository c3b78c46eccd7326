import java.util.ArrayList;
import java.util.List;

/**
 * "A call that is refused (NONE, false) changes nothing but the tape, where it is told." Each such call is made in a
 * new house, in one that has been told something of everything, and in one that is full; then all that a house answers
 * is asked and set beside the answers of a house without the call. What only asks changes nothing either.
 */
public final class RefusedTest {
    private static final int NEW = 0;
    private static final int SOME = 1;
    private static final int FULL = 2;
    private static final String TAPE = "c(t=1);h(t=2);c([t]=39)";
    private static final int MIN = Integer.MIN_VALUE;
    private static final int MAX = Integer.MAX_VALUE;

    private interface Call {
        long on(PaidHouse x);
    }

    private static final class Made {
        final String name;
        final Call call;
        final long due;

        Made(String name, Call call, long due) {
            this.name = name;
            this.call = call;
            this.due = due;
        }
    }

    private static final List<Made> MADE = new ArrayList<>();

    private static void number(String name, long due, Call call) {
        MADE.add(new Made(name, call, due));
    }

    private static void none(String name, Call call) {
        number(name, -1, call);
    }

    private static long as(boolean answer) {
        return answer ? 1 : 0;
    }

    // ---- the houses ----

    private static void tellAll(PaidHouse x) {
        x.good(0, 60, 20);
        x.good(2, 30, 90);
        x.good(39, 17, 71);
        for (int stick = 1; stick <= 2; stick++) {
            x.plan(stick, 0, stick);
            x.plan(stick, 2, 1);
            x.plan(stick, 39, 3 - stick);
        }
        x.prices(7, 9);
        x.table(0, 1, 2, 5);
        x.table(1, 3, 4, -7);
        x.table(0, 4, 0, -1000);
        x.table(1, 0, 4, 1000);
        Checks.law(x, 0, "c(g>50);h(n>1);c(a>0&t<4)");
        Checks.law(x, 1, "h(q>0&t=1);c(l=2|z>0)");
        Checks.law(x, 3, "c(t%2=0)");
    }

    private static PaidHouse some() {
        PaidHouse x = new PaidHouse();
        x.rows(5);
        int[] seats = {0, 1, 2, 6, 8, 13, 20};
        for (int s : seats) {
            x.seat(s, s % 4, s / 2 % 2);
        }
        x.paid(1, 1);
        x.paid(8, 1);
        x.paid(13, 2);
        x.seconds(3);
        tellAll(x);
        x.keep();
        x.paid(8, 0);
        x.good(1, 100, 100);
        x.keep();
        Checks.feed(x, TAPE);
        return x;
    }

    private static PaidHouse full() {
        PaidHouse x = new PaidHouse();
        x.rows(8);
        for (int s = 0; s < 24; s++) {
            x.seat(s, s % 4, s / 4 % 2);
        }
        for (int s = 0; s < 24; s += 5) {
            x.paid(s, 1 + s % 2);
        }
        x.seconds(40);
        tellAll(x);
        for (int i = 0; i < 20; i++) {
            x.good(3, 5 * i, 4 * i);
            x.keep();
        }
        return x;
    }

    /** The right numbers of all forty seconds, and twenty bytes more. */
    private static int[] numbersOfFull() {
        PaidHouse x = full();
        int[] numbers = new int[125];
        for (int t = 0; t < 40; t++) {
            numbers[3 * t] = t;
            numbers[3 * t + 1] = x.loud(t, 0);
            numbers[3 * t + 2] = x.loud(t, 1);
        }
        return numbers;
    }

    private static PaidHouse house(int kind, int[] numbers) {
        if (kind == NEW) {
            return new PaidHouse();
        }
        if (kind == SOME) {
            return some();
        }
        PaidHouse x = full();
        Checks.numbers(x, numbers);
        return x;
    }

    // ---- all that a house answers ----

    private static void told(PaidHouse x, List<Long> found, boolean tape) {
        for (int what = 0; what < 74; what++) {
            if (what != 3 || tape) {
                found.add((long) x.count(what));
            }
        }
        found.add((long) x.rests(5, -1));
        for (int place = 0; place < 25; place++) {
            found.add((long) x.rests(5, place));
        }
    }

    private static void evening(PaidHouse x, List<Long> found) {
        int last = x.count(2) - 1;
        for (int s = 0; s < 24; s++) {
            found.add((long) x.shows(s, last));
            found.add((long) x.otherwise(s));
        }
        for (int t : new int[] {0, 1, 2, 38, 39}) {
            found.add((long) x.loud(t, 0));
            found.add((long) x.loud(t, 1));
        }
        for (int stick = 1; stick <= 2; stick++) {
            found.add((long) x.costs(stick));
            found.add((long) x.more(stick));
            found.add((long) x.seated(stick, 1, 0));
            found.add((long) x.seated(stick, 1, 1));
        }
        for (int what = 0; what < 3; what++) {
            found.add((long) x.silent(what));
            found.add((long) x.hears(what));
        }
        found.add((long) x.house());
        found.add((long) x.wins());
        found.add((long) x.suspects(1));
        found.add((long) x.suspects(3));
        found.add((long) x.years(100, 50, 3, 100));
    }

    /** What only shows when more is told: the tape, the later seconds, the laws of sorts that nobody has. */
    private static void hidden(PaidHouse x, List<Long> found, int kind, boolean tape) {
        if (tape) {
            found.add((long) (kind == SOME ? x.law(2, TAPE.length()) : x.check(kind == FULL ? 40 : 0)));
        }
        x.seconds(40);
        for (int sort = 0; sort < 4; sort++) {
            found.add(as(x.seat(sort, sort, sort % 2)));
            found.add(as(x.paid(sort, 0)));
        }
        for (int stick = 1; stick <= 2; stick++) {
            x.seat(20 + stick, stick, 0);
            x.paid(20 + stick, stick);
        }
        for (int t : new int[] {0, 1, 2, 3, 38, 39}) {
            for (int s : new int[] {0, 1, 2, 3, 21, 22}) {
                found.add((long) x.shows(s, t));
            }
        }
        found.add((long) x.keep());
        found.add((long) x.hears(0));
        found.add((long) x.hears(1));
    }

    private static List<Long> picture(PaidHouse x, int kind, boolean tape) {
        List<Long> found = new ArrayList<>();
        told(x, found, tape);
        evening(x, found);
        hidden(x, found, kind, tape);
        return found;
    }

    private static void changesNothing(int kind, boolean tape, int[] numbers) {
        List<Long> want = picture(house(kind, numbers), kind, tape);
        for (Made made : MADE) {
            PaidHouse x = house(kind, numbers);
            Checks.same("house " + kind + ": " + made.name, made.call.on(x), made.due);
            Checks.same("house " + kind + ": what is told before " + made.name + " still holds",
                    picture(x, kind, tape).equals(want), true);
        }
        MADE.clear();
    }

    // ---- the calls ----

    private static void refusedTelling() {
        for (int n : new int[] {3, 9, 0, -1, MIN, MAX}) {
            number("rows " + n, 0, x -> as(x.rows(n)));
        }
        int[][] seats = {{-1, 0, 0}, {24, 0, 0}, {32, 0, 0}, {MIN, 0, 0}, {MAX, -1, 0}, {0, -2, 0}, {0, 4, 0},
            {0, MAX, 0}, {0, 0, -1}, {0, 0, 2}, {1, 3, MIN}, {-1, -1, 0}, {24, -1, 0}};
        for (int[] a : seats) {
            number("seat " + a[0] + " " + a[1] + " " + a[2], 0, x -> as(x.seat(a[0], a[1], a[2])));
        }
        int[][] paid = {{-1, 0}, {24, 1}, {32, 1}, {MIN, 2}, {MAX, 2}, {1, -1}, {1, 3}, {1, MIN}, {1, MAX}};
        for (int[] a : paid) {
            number("paid " + a[0] + " " + a[1], 0, x -> as(x.paid(a[0], a[1])));
        }
        for (int n : new int[] {0, 41, -1, MIN, MAX}) {
            number("seconds " + n, 0, x -> as(x.seconds(n)));
        }
        int[][] threes = {{-1, 1, 1}, {40, 1, 1}, {MIN, 1, 1}, {MAX, 1, 1}};
        for (int[] a : threes) {
            number("good at " + a[0], 0, x -> as(x.good(a[0], a[1], a[2])));
            number("plan at " + a[0], 0, x -> as(x.plan(a[1], a[0], a[2])));
        }
        for (int n : new int[] {-1, 101, MIN, MAX}) {
            number("good for who knows " + n, 0, x -> as(x.good(0, n, 1)));
            number("good for others " + n, 0, x -> as(x.good(39, 1, n)));
            number("price of a clap " + n, 0, x -> as(x.prices(n, 1)));
            number("price of a hiss " + n, 0, x -> as(x.prices(1, n)));
        }
        for (int n : new int[] {-1, 0, 3, MIN, MAX}) {
            number("plan of " + n, 0, x -> as(x.plan(n, 0, 1)));
            number("plan, act " + (n == 0 ? 4 : n), 0, x -> as(x.plan(1, 0, n == 0 ? 4 : n)));
        }
        int[][] table = {{-1, 0, 0, 1}, {2, 0, 0, 1}, {0, -1, 0, 1}, {0, 5, 0, 1}, {1, 0, -1, 1}, {1, 0, 5, 1},
            {0, 1, 2, -1001}, {1, 3, 4, 1001}, {0, 0, 0, MIN}, {MAX, 1, 1, 1}, {0, 0, 25, 1}};
        for (int[] a : table) {
            number("table " + a[0] + " " + a[1] + " " + a[2] + " " + a[3], 0, x -> as(x.table(a[0], a[1], a[2], a[3])));
        }
    }

    private static void refusedTape() {
        int[][] laws = {{-1, 5}, {4, 5}, {MIN, 5}, {MAX, 5}, {0, 0}, {0, 121}, {3, -1}, {0, 501}, {0, MIN}, {0, MAX}};
        for (int[] a : laws) {
            none("law " + a[0] + " " + a[1], x -> x.law(a[0], a[1]));
        }
        for (int n : new int[] {-1, 42, MIN, MAX, 357913942}) {
            number("check " + n, -2, x -> x.check(n));
        }
    }

    private static void refusedAsking() {
        for (int n : new int[] {-1, 40, MIN, MAX}) {
            none("shows at " + n, x -> x.shows(0, n));
            none("loud at " + n, x -> x.loud(n, 1));
        }
        for (int n : new int[] {-1, 24, MIN, MAX}) {
            none("shows on " + n, x -> x.shows(n, 0));
            none("otherwise of " + n, x -> x.otherwise(n));
        }
        for (int n : new int[] {-1, 3, MIN, MAX}) {
            none("loud " + n, x -> x.loud(0, n));
            none("hears " + n, x -> x.hears(n));
            none("costs " + n, x -> x.costs(n));
            number("more " + n, -1000000, x -> x.more(n));
            number("silent " + n, -1000000, x -> x.silent(n));
            none("seated by " + n, x -> x.seated(n, 1, 0));
            number("seated by " + n + ", the house", -1000000, x -> x.seated(n, 1, 1));
            none("seated, what " + n, x -> x.seated(1, 1, n));
        }
        for (int n : new int[] {0, 4, MIN, MAX}) {
            none("seated " + n, x -> x.seated(2, n, 0));
            number("seated " + n + ", the house", -1000000, x -> x.seated(1, n, 1));
        }
        for (int n : new int[] {1, 6, MIN, MAX}) {
            none("rests with " + n, x -> x.rests(n, -1));
        }
        for (int n : new int[] {-2, 25, MIN, MAX}) {
            none("rests at " + n, x -> x.rests(5, n));
        }
        for (int n : new int[] {0, 801, MIN, MAX}) {
            none("suspects " + n, x -> x.suspects(n));
        }
        for (int n : new int[] {-1, 7, 9, 14, 19, 44, 49, 74, MIN, MAX}) {
            none("count " + n, x -> x.count(n));
        }
        int[][] homes = {{0, 0, 0, 0, 0}, {21, 0, 0, 0, 0}, {5, 6, 0, 0, 0}, {5, 2, 3, 0, 0}, {5, 2, 0, 4, 0},
            {5, 2, 0, 0, 2}, {5, -1, 0, 0, 0}, {5, 2, -1, 0, 0}, {5, 2, 0, -1, 0}, {5, 2, 0, 0, -1}};
        for (int[] a : homes) {
            none("funnier " + java.util.Arrays.toString(a), x -> x.funnier(a[0], a[1], a[2], a[3], a[4]));
        }
        int[][] years = {{-1, 0, 1, 0}, {10001, 0, 1, 0}, {0, -1, 1, 0}, {0, 10001, 1, 0}, {0, 0, 0, 0}, {0, 0, 51, 0},
            {0, 0, 1, -1}, {0, 0, 1, 1001}};
        for (int[] a : years) {
            none("years " + java.util.Arrays.toString(a), x -> x.years(a[0], a[1], a[2], a[3]));
        }
    }

    private static void refusedInANewHouse() {
        for (int s : new int[] {0, 12, 23}) {
            number("paid on an empty seat " + s, 0, x -> as(x.paid(s, 1)));
            none("shows on an empty seat " + s, x -> x.shows(s, 0));
            none("otherwise on an empty seat " + s, x -> x.otherwise(s));
            none("sort on an empty seat " + s, x -> x.count(20 + s));
            none("payer on an empty seat " + s, x -> x.count(50 + s));
        }
        none("begins", x -> x.begins());
        none("seated", x -> x.seated(1, 1, 0));
        number("seated, the house", -1000000, x -> x.seated(1, 1, 1));
        none("law of one byte", x -> x.law(0, 1));
        number("check of one three", -2, x -> x.check(1));
        none("shows at second 1", x -> x.shows(0, 1));
    }

    private static void refusedWithSome() {
        for (int n = 4; n <= 8; n++) {
            int wide = n;
            number("rows with persons " + n, 0, x -> as(x.rows(wide)));
        }
        for (int by = 0; by < 3; by++) {
            int stick = by;
            number("paid on an empty seat by " + by, 0, x -> as(x.paid(3, stick)));
        }
        none("law of 41 bytes", x -> x.law(2, 41));
        number("check of four threes", -2, x -> x.check(4));
        none("shows behind the last second", x -> x.shows(0, 3));
        none("loud behind the last second", x -> x.loud(3, 0));
    }

    private static void refusedWhenFull() {
        for (int n = 4; n <= 8; n++) {
            int wide = n;
            number("rows of a full house " + n, 0, x -> as(x.rows(wide)));
        }
        none("a 21st evening", x -> x.keep());
        none("a full tape", x -> x.feed(1, 2, 3, 4, 5));
        none("a full tape, with what it would empty", x -> x.feed(0, 0, 0, 0, 0));
    }

    /** What is asked and answered changes nothing either, in whatever house. */
    private static void asking() {
        number("seated thrice", 0, x -> Math.min(0, x.seated(1, 3, 0) + 1));
        number("begins", 0, x -> Math.min(0, x.begins() + 2));
        number("all of the evening", 0, x -> 0 * (x.house() + x.more(1) + x.more(2) + x.wins() + x.silent(1)));
        number("all of the kept ones", 0, x -> 0 * (x.hears(0) + x.otherwise(0) + x.suspects(1)));
        number("all of the rest", 0, x -> 0 * (x.funnier(20, 10, 5, 5, 0) + x.years(1, 2, 3, 4) + x.rests(5, 0)));
    }

    /** "a FAULT: .. (the TEXT before stays)": the tape alone is told; and a check tells it alone, right or not. */
    private static void tapeAlone() {
        number("a fault at the end", -1005, x -> x.law(0, 5));
        number("a fault in a law of another sort", -1007, x -> x.law(1, 7));
        number("a fault where there was no law", -1001, x -> x.law(2, 1));
        number("a fault behind it", -1000 - TAPE.length(), x -> x.law(3, TAPE.length() + 1));
        number("a check that is wrong", 0, x -> x.check(3));
        number("a check of nothing", 0, x -> x.check(0));
    }

    private static void everywhere() {
        refusedTelling();
        refusedTape();
        refusedAsking();
        asking();
    }

    public static void main(String[] args) {
        int[] numbers = numbersOfFull();
        everywhere();
        refusedInANewHouse();
        changesNothing(NEW, true, numbers);
        everywhere();
        refusedWithSome();
        changesNothing(SOME, true, numbers);
        everywhere();
        refusedWhenFull();
        changesNothing(FULL, true, numbers);
        tapeAlone();
        changesNothing(SOME, false, numbers);
        Checks.end("RefusedTest");
    }
}
