/**
 * The sentences of the document that name an edge of EVENINGS kept and of CHECK: Terms, part 4, promises 22 to 25 and
 * 28. Each test stands under the words that it holds the class to.
 */
public final class EdgeKeptTest {
    private static final int ALL = (1 << 24) - 1;

    private static void same(String what, long got, long want) {
        Checks.same(what, got, want);
    }

    // ---- keep and hears ----

    /** "EVENINGS kept (20 at most)"; "how many there are; NONE: 20 are there." */
    private static void twentyAtMost() {
        PaidHouse x = Checks.people(1, 1, "h(1=1)");
        same("none is kept", x.count(4), 0);
        for (int n = 1; n <= 20; n++) {
            same("keep " + n, x.keep(), n);
            same("told " + n, x.count(4), n);
        }
        Checks.law(x, 0, "c(1=1)");
        for (int i = 0; i < 3; i++) {
            same("20 are there", x.keep(), -1);
            same("and stay", x.count(4), 20);
            same("as they were", x.otherwise(0), 20);
        }
    }

    /** "of pairs of EVENINGS in which THE HOUSE and GOOD differ, in how many both go one way, in how many not" */
    private static void pairsOfEvenings() {
        PaidHouse x = Checks.people(24, 1, "c(s<g)");
        PaidHouse y = Checks.people(24, 1, "h(s<g)");
        Checks.span("hears", 0, 1, x::hears, -1);
        for (int n = 0; n < 20; n++) {
            same("one way by " + n, x.hears(0), n * (n - 1) / 2);
            same("not, by " + n, x.hears(1), 0);
            same("the other way by " + n, y.hears(1), n * (n - 1) / 2);
            same("not that, by " + n, y.hears(0), 0);
            x.good(0, n, n);
            y.good(0, n, n);
            x.keep();
            y.keep();
        }
        same("190 pairs of 20", x.hears(0), 190);
        same("190 pairs of 20 the other way", y.hears(1), 190);
    }

    /** A pair in which THE HOUSE alone or GOOD alone differs is no such pair. */
    private static void bothMustDiffer() {
        PaidHouse x = Checks.people(2, 2, "c(g>0)");
        x.keep();
        x.keep();
        same("neither differs", x.hears(0) + x.hears(1), 0);
        x.good(0, 50, 0);
        x.keep();
        same("good alone differs", x.hears(0) + x.hears(1), 0);
        x.good(0, 0, 1);
        x.keep();
        same("the house alone differs from two; from the third both, the other way", x.hears(0) * 100 + x.hears(1), 1);
        x.good(1, 100, 0);
        x.keep();
        same("all seconds together: 100 with a house of 2", x.hears(0), 3);
        same("as before", x.hears(1), 1);
        x.good(0, 0, 0);
        x.good(1, 0, 0);
        x.good(2, 99, 0);
        x.good(39, 1, 0);
        x.keep();
        same("no later seconds: like the first two", x.hears(1), 1);
        same("below the fifth", x.hears(0), 4);
    }

    // ---- otherwise and suspects ----

    /** "in how many SECONDS he showed other than THE LAW": none kept, all of 20 times 40. */
    private static void noneToEightHundred() {
        PaidHouse x = Checks.people(24, 40, "");
        Checks.span("otherwise", 0, 23, x::otherwise, -1);
        for (int i = 0; i < 20; i++) {
            same("nothing was otherwise", x.otherwise(23), 0);
            x.keep();
        }
        same("no suspects", x.suspects(1), 0);
        Checks.law(x, 0, "c(1=1)");
        same("all was", x.otherwise(0), 800);
        same("all was", x.otherwise(23), 800);
        Checks.span("suspects", 1, 800, x::suspects, -1);
        same("all are suspects by 800", x.suspects(800), ALL);
        Checks.law(x, 0, "c(s=5&t>0);c(s>5)");
        same("in 780", x.otherwise(5), 780);
        same("by 781", x.suspects(781), ALL & ~63);
        same("by 780: that many or more", x.suspects(780), ALL & ~31);
        same("by 1", x.suspects(1), ALL & ~31);
        x.seat(23, -1, 0);
        same("empty now", x.otherwise(23), -1);
        same("empty now: no suspect", x.suspects(800), ALL & ~63 & ~(1 << 23));
    }

    /** "(On a SEAT that was empty then: none.)" */
    private static void emptyThen() {
        PaidHouse x = Checks.people(1, 3, "");
        x.keep();
        x.seat(7, 0, 0);
        Checks.law(x, 0, "c(1=1)");
        same("the seat was empty", x.otherwise(7), 0);
        same("who was there", x.otherwise(0), 3);
        same("suspects", x.suspects(1), 1);
        x.keep();
        x.seat(0, -1, 0);
        x.keep();
        x.seat(0, 0, 0);
        same("by the law in the second one, empty in the third", x.otherwise(0), 3);
        Checks.law(x, 0, "h(1=1)");
        same("two of three evenings", x.otherwise(0), 6);
        same("two of three evenings", x.otherwise(7), 6);
    }

    /** "as they were played", "all letters as they were kept (SORT, KNOWS, PAID, GOOD, who showed what)" */
    private static void asTheyWerePlayed() {
        String[] letters = {"g=9", "n=2", "z=1", "a=2", "b=1", "p=4", "l=0", "t=1", "s=7", "w=1", "q=2", "k=1"};
        for (String letter : letters) {
            PaidHouse x = new PaidHouse();
            x.seconds(2);
            x.seat(7, 2, 1);
            x.seat(6, 1, 0);
            x.seat(8, 1, 0);
            x.seat(1, 1, 0);
            x.paid(6, 1);
            x.paid(1, 2);
            x.plan(1, 0, 1);
            x.plan(2, 0, 2);
            x.good(1, 9, 4);
            Checks.law(x, 1, "c(t=0)");
            x.keep();
            for (int s = 0; s < 24; s++) {
                x.seat(s, -1, 0);
            }
            x.rows(8);
            x.seat(7, 3, 0);
            x.seat(2, 0, 0);
            x.seconds(1);
            x.good(1, 0, 0);
            x.plan(1, 0, 2);
            x.plan(2, 0, 0);
            Checks.law(x, 1, "h(1=1)");
            Checks.law(x, 3, "h(1=1)");
            same("no law of the sort as kept", x.otherwise(7), 0);
            Checks.law(x, 2, "c(t=1&" + letter + ")");
            same(letter + " as it was kept", x.otherwise(7), 1);
            same(letter + " is in the evening now as it is", x.shows(7, 0), 2);
        }
    }

    /** The same for rows of each width, for who doesn't know, and for what is ahead of the first SECOND. */
    private static void rowsAndGoodAsKept() {
        for (int wide = 4; wide <= 8; wide++) {
            PaidHouse x = new PaidHouse();
            x.rows(wide);
            x.seconds(2);
            x.seat(1, 0, 0);
            x.seat(1 + wide, 1, 0);
            x.paid(1, 2);
            x.plan(2, 0, 1);
            x.good(1, 3, 8);
            x.keep();
            x.seat(1, -1, 0);
            x.seat(1 + wide, -1, 0);
            x.rows(wide == 4 ? 5 : 4);
            x.seat(1 + wide, 2, 1);
            x.good(1, 2, 1);
            Checks.law(x, 1, "c(t=1&n=1&q=1&w=1&g=8&k=0&p=2)");
            same("as it was kept in rows of " + wide, x.otherwise(1 + wide), 1);
            Checks.law(x, 1, "c(t=0&n=0&z=0&a=0&b=0&l=0&q=1&g=0)");
            same("nothing ahead of the first", x.otherwise(1 + wide), 1);
            Checks.law(x, 1, "c(t=0&n+z+a+b+l>0)");
            same("nothing ahead of the first", x.otherwise(1 + wide), 0);
        }
    }

    /** "THE LAW of his SORT (as now)": of every SORT, and of one that has none. */
    private static void theLawAsNow() {
        PaidHouse x = new PaidHouse();
        x.seconds(2);
        for (int sort = 0; sort < 4; sort++) {
            x.seat(sort, sort, 0);
            Checks.law(x, sort, "c(t=" + sort % 2 + ")");
        }
        x.keep();
        for (int sort = 0; sort < 4; sort++) {
            same("by the law", x.otherwise(sort), 0);
            Checks.law(x, sort, "h(t=" + sort % 2 + ")");
            same("by the law as now", x.otherwise(sort), 1);
            Checks.law(x, sort, "h(1=1)");
            same("by the law as now", x.otherwise(sort), 2);
            same("suspects so far", x.suspects(2), (2 << sort) - 1);
            same("a law that is refused", Checks.law(x, sort, "c(t=0"), -1005);
            same("leaves it", x.otherwise(sort), 2);
        }
    }

    // ---- check ----

    /** "-2: it has not so many (the tape stays)": twelve bytes a three. */
    private static void notSoMany() {
        int[][] sizes = {{0, 0}, {20, 1}, {40, 3}, {60, 5}, {80, 6}, {240, 20}, {480, 40}, {500, 41}};
        for (int[] size : sizes) {
            PaidHouse x = new PaidHouse();
            for (int i = 0; i < size[0] / 20; i++) {
                x.feed(1, 1, 1, 1, 1);
            }
            for (int n : new int[] {size[1] + 1, -1, -2, 42, 1000, Integer.MIN_VALUE, Integer.MAX_VALUE, 357913942,
                715827883, 1431655766, -357913941}) {
                same("a tape of " + size[0] + ": check " + n, x.check(n), -2);
                same("it stays", x.count(3), size[0]);
            }
            same("a tape of " + size[0] + ": check " + size[1], x.check(size[1]), 0);
            same("it is empty", x.count(3), 0);
        }
    }

    private static int[] rightNumbers(int seconds, int clap, int hiss) {
        int[] numbers = new int[3 * seconds];
        for (int t = 0; t < seconds; t++) {
            numbers[3 * t] = t;
            numbers[3 * t + 1] = clap;
            numbers[3 * t + 2] = hiss;
        }
        return numbers;
    }

    private static int checked(PaidHouse x, int n, int... numbers) {
        Checks.numbers(x, numbers);
        int answer = x.check(n);
        same("the tape is empty then", x.count(3), 0);
        return answer;
    }

    /** "NONE: right; else the place of the first number that is not so (3 n: some are lacking)" */
    private static void allSecondsOfTheEvening() {
        for (int seconds : new int[] {1, 2, 39, 40}) {
            PaidHouse x = Checks.people(24, seconds, "c(s<20);h(s<23)");
            int[] right = rightNumbers(seconds, 20, 3);
            same("right", checked(x, seconds, right), -1);
            same("one is lacking", checked(x, seconds - 1, right), 3 * seconds - 3);
            same("all are lacking", checked(x, 0, right), 0);
            same("one second too many", checked(x, seconds + 1, rightNumbers(seconds + 1, 20, 3)), 3 * seconds);
            same("right once more", checked(x, seconds, right), -1);
            int last = 3 * seconds - 1;
            right[last]++;
            same("the last is wrong", checked(x, seconds, right), last);
            right[0] = -1;
            same("the first is wrong, too", checked(x, seconds, right), 0);
            same("the first is wrong and others are lacking", checked(x, 1, right), 0);
        }
    }

    /** Each number of a three: one more, one less, and what differs in its highest byte alone. */
    private static void eachNumber() {
        for (int place = 0; place < 9; place++) {
            PaidHouse x = Checks.people(3, 3, "c(s<t);h(1=1)");
            int[] right = {0, 0, 3, 1, 1, 2, 2, 2, 1};
            same("right", checked(x, 3, right), -1);
            for (int by : new int[] {1, -1, 256, 65536, 1 << 24, 1 << 31}) {
                int[] numbers = right.clone();
                numbers[place] += by;
                same("at " + place + " by " + by, checked(x, 3, numbers), place);
            }
        }
        PaidHouse x = Checks.people(1, 2, "");
        same("seconds in another order", checked(x, 2, 1, 0, 0, 0, 0, 0), 0);
        same("a second twice", checked(x, 2, 0, 0, 0, 0, 0, 0), 3);
        same("nobody", checked(new PaidHouse(), 1, 0, 0, 0), -1);
    }

    public static void main(String[] args) {
        twentyAtMost();
        pairsOfEvenings();
        bothMustDiffer();
        noneToEightHundred();
        emptyThen();
        asTheyWerePlayed();
        rowsAndGoodAsKept();
        theLawAsNow();
        notSoMany();
        allSecondsOfTheEvening();
        eachNumber();
        Checks.end("EdgeKeptTest");
    }
}
