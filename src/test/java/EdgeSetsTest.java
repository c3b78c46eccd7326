/**
 * The sentences of the document that name an edge of evenings that are only supposed, of the two tenors, the reels and
 * the years: SEATED, BEGINS, SILENT, RESTS, FUNNIER, YEARS; promises 17 to 21, 26 and 27.
 */
public final class EdgeSetsTest {
    private static final int NO_SUCH = -1000000;

    private static void same(String what, long got, long want) {
        Checks.same(what, got, want);
    }

    private static int bits(int... seats) {
        return Checks.bits(seats);
    }

    private static void seated(PaidHouse x, int stick, int n, int set, int house) {
        same("seated " + n + " by " + stick, x.seated(stick, n, 0), set);
        same("seated " + n + " by " + stick + ": the house", x.seated(stick, n, 1), house);
    }

    // ---- seated ----

    /** "with n (1 to 3) to be PAID by it"; "what 0 the set, 1 THE HOUSE then (-1000000 for no such ones)" */
    private static void oneToThree() {
        PaidHouse x = Checks.people(4, 1, "");
        Checks.span("seated by", 1, 2, stick -> x.seated(stick, 1, 0), -1);
        Checks.span("seated by: the house", 1, 2, stick -> x.seated(stick, 1, 1), NO_SUCH);
        Checks.span("seated so many", 1, 3, n -> x.seated(1, n, 0), -1);
        Checks.span("seated so many: the house", 1, 3, n -> x.seated(2, n, 1), NO_SUCH);
        Checks.span("seated, what", 0, 1, what -> x.seated(2, 2, what), -1);
        same("nobody is paid by that", x.count(50) + x.count(51) + x.count(52) + x.count(53), 0);
    }

    /** "there are not n such PERSONS": just n of them, and one less. */
    private static void justSoMany() {
        PaidHouse x = new PaidHouse();
        x.plan(1, 0, 1);
        x.plan(2, 0, 2);
        int[] seats = {23, 0, 11};
        for (int there = 0; there < 3; there++) {
            for (int n = there + 1; n <= 3; n++) {
                seated(x, 1, n, -1, NO_SUCH);
                seated(x, 2, n, -1, NO_SUCH);
            }
            x.seat(seats[there], 0, 0);
        }
        seated(x, 1, 3, bits(0, 11, 23), 3);
        seated(x, 2, 3, bits(0, 11, 23), -3);
        x.seat(5, 1, 0);
        x.paid(5, 2);
        seated(x, 1, 3, bits(0, 11, 23), 2);
        seated(x, 2, 3, bits(0, 5, 11), -3);
        x.paid(11, 2);
        seated(x, 1, 3, -1, NO_SUCH);
        seated(x, 1, 2, bits(0, 23), 0);
        x.paid(0, 2);
        x.paid(23, 2);
        seated(x, 1, 1, -1, NO_SUCH);
        x.paid(23, 1);
        seated(x, 1, 1, bits(23), -2);
        seated(x, 1, 2, -1, NO_SUCH);
    }

    /** All 24 SEATS taken: "of like ones the least set, as bits", and the last one if it alone is best. */
    private static void ofAllTwentyFour() {
        PaidHouse x = Checks.people(24, 2, "");
        x.plan(1, 0, 1);
        seated(x, 1, 1, bits(0), 1);
        seated(x, 1, 2, bits(0, 1), 2);
        seated(x, 1, 3, bits(0, 1, 2), 3);
        Checks.law(x, 0, "c(s<21)");
        seated(x, 1, 1, bits(21), 43);
        seated(x, 1, 2, bits(21, 22), 44);
        seated(x, 1, 3, bits(21, 22, 23), 45);
        for (int s = 0; s < 24; s++) {
            x.paid(s, 1);
        }
        seated(x, 1, 3, bits(21, 22, 23), 45);
        same("still all are paid", x.count(50) + x.count(73), 2);
        x.seat(21, -1, 0);
        seated(x, 1, 3, bits(0, 22, 23), 43);
    }

    /** Least as bits, not by its seats: {1, 2} is 6, {0, 3} is 9. */
    private static void leastAsBits() {
        PaidHouse x = Checks.people(4, 1, "c(q=1)");
        x.plan(1, 0, 1);
        seated(x, 1, 2, bits(1, 2), 4);
        PaidHouse y = new PaidHouse();
        y.plan(1, 0, 1);
        for (int s : new int[] {0, 2, 3, 5}) {
            y.seat(s, 0, 0);
        }
        Checks.law(y, 0, "h(s=0&q=0);c(s=0)");
        seated(y, 1, 1, bits(0), 1);
        Checks.law(y, 0, "h(s<3)");
        seated(y, 1, 2, bits(0, 2), 2);
        Checks.law(y, 0, "c(s=0)");
        seated(y, 1, 2, bits(2, 3), 3);
    }

    /** "(least, if its PLAN has more SECONDS of HISS than of CLAP)": one more, as many, none at all. */
    private static void greatestOrLeast() {
        PaidHouse x = Checks.people(2, 5, "c(s=1)");
        seated(x, 1, 1, bits(0), 5);
        x.plan(1, 0, 1);
        x.plan(1, 1, 2);
        seated(x, 1, 1, bits(0), 5);
        x.plan(1, 2, 2);
        seated(x, 1, 1, bits(1), -1);
        x.plan(1, 3, 1);
        seated(x, 1, 1, bits(0), 5);
        x.plan(1, 4, 2);
        seated(x, 1, 1, bits(1), -1);
        x.plan(1, 4, 1);
        seated(x, 1, 1, bits(0), 6);
        seated(x, 2, 1, bits(0), 5);
        x.plan(1, 0, 0);
        x.plan(1, 3, 0);
        x.plan(1, 4, 0);
        x.plan(1, 1, 0);
        seated(x, 1, 1, bits(1), -1);
    }

    // ---- begins ----

    /** "the fewest PERSONS (3 at most; none, too ..)"; "-2: three do not do; NONE: there are no PERSONS." */
    private static void noneToThree() {
        PaidHouse x = new PaidHouse();
        same("no persons", x.begins(), -1);
        x.seat(23, 0, 0);
        same("one", x.begins(), bits(23));
        x.seat(22, 0, 0);
        same("two", x.begins(), bits(22, 23));
        x.seat(0, 0, 0);
        same("three", x.begins(), bits(0, 22, 23));
        x.seat(9, 0, 0);
        same("four would be needed", x.begins(), -2);
        Checks.law(x, 0, "c(1=1)");
        same("none is needed", x.begins(), 0);
        for (int s = 0; s < 24; s++) {
            x.seat(s, 0, 0);
        }
        same("none is needed of 24", x.begins(), 0);
        Checks.law(x, 0, "c(s<20)");
        same("four of 24", x.begins(), -2);
        Checks.law(x, 0, "c(s<21)");
        same("three of 24", x.begins(), bits(21, 22, 23));
        Checks.law(x, 0, "c(s>2)");
        same("the first three of 24", x.begins(), bits(0, 1, 2));
        for (int s = 0; s < 24; s++) {
            x.seat(s, -1, 0);
        }
        same("nobody is there any more", x.begins(), -1);
    }

    /** "if they CLAP at SECOND 0 (whatever they would) and go by THE LAW from then on"; "at the last SECOND" */
    private static void fromThenOn() {
        PaidHouse x = Checks.people(2, 1, "h(t=0)");
        same("they clap whatever they would", x.begins(), bits(0, 1));
        x.seconds(2);
        same("they go by the law from then on", x.begins(), -2);
        Checks.law(x, 0, "h(t=0);c(a>0)");
        same("one that claps is enough", x.begins(), bits(0));
        Checks.law(x, 0, "h(t=0);c(a=1&b=1)");
        same("no hiss of who begins", x.begins(), bits(0));
        Checks.law(x, 0, "h(t=0);c(b=1)");
        x.seconds(3);
        same("at the last second, not before", x.begins(), -2);
        Checks.law(x, 0, "c(t=2)");
        same("at the last second alone", x.begins(), 0);
        x.seconds(40);
        Checks.law(x, 0, "c(l=1)");
        same("forty seconds", x.begins(), bits(0, 1));
        Checks.law(x, 0, "c(t=39)");
        same("the fortieth", x.begins(), 0);
        PaidHouse y = Checks.people(24, 40, "c(n>0|l=1)");
        same("one who is followed by all", y.begins(), bits(0));
        y.seconds(9);
        same("eight steps to the other corner", y.begins(), bits(0));
        y.seconds(8);
        same("one step less", y.begins(), bits(1));
    }

    /** "nobody being PAID": neither their plans nor their sticks are seen. */
    private static void nobodyBeingPaid() {
        PaidHouse x = Checks.people(3, 2, "c(q=0&t=1)");
        for (int s = 0; s < 3; s++) {
            x.paid(s, 1 + s % 2);
        }
        x.plan(1, 1, 2);
        x.plan(2, 1, 2);
        same("nobody is paid", x.begins(), 0);
        same("they are still paid", x.count(50) * 100 + x.count(51) * 10 + x.count(52), 121);
        same("and hiss", x.house(), -3);
    }

    /** "of like ones the least set" */
    private static void leastOfLikeOnes() {
        PaidHouse x = Checks.people(6, 2, "c(l=1|n>0)");
        same("two that reach six in a row", x.begins(), bits(1, 4));
        x.seat(5, -1, 0);
        same("two that reach five: 0 and 3, not 1 and 4", x.begins(), bits(0, 3));
    }

    // ---- silent ----

    /** "SILENT: THE HOUSE of the evening if nobody is PAID; how many PERSONS show anything at all in it .. KNOW" */
    private static void silent() {
        PaidHouse x = Checks.people(24, 40, "c(t=39)");
        Checks.span("silent", 0, 2, x::silent, NO_SUCH);
        for (int s = 0; s < 24; s++) {
            x.seat(s, 0, 1);
            x.paid(s, 1);
        }
        same("once, at the last second", x.silent(0), 24);
        same("all 24", x.silent(1), 24);
        same("all of them know", x.silent(2), 24);
        same("though they are paid for nothing", x.house(), 0);
        x.seconds(39);
        same("a second less: nobody", x.silent(1), 0);
        same("a second less: nobody who knows", x.silent(2), 0);
        x.seconds(40);
        Checks.law(x, 0, "h(t=0&s=23)");
        same("a hiss is something", x.silent(1), 1);
        same("a house of -1 is no refusal", x.silent(0), -1);
        x.seat(23, 0, 0);
        same("he does not know", x.silent(2), 0);
        Checks.law(x, 0, "c(t=1);h(t=2)");
        same("a house of 0", x.silent(0), 0);
        same("in which all show something", x.silent(1), 24);
        same("and 23 know", x.silent(2), 23);
        Checks.law(x, 0, "c(1=2)");
        same("nobody shows anything", x.silent(1), 0);
        same("and none of these know", x.silent(2), 0);
        x.seconds(39);
        Checks.law(x, 0, "c(t=39)");
        same("a second that is not there", x.silent(1), 0);
    }

    /** "a row has 4 to 8 SEATS, told first": in all evenings that are only supposed, too. */
    private static void rowsAsTold() {
        for (int wide = 4; wide <= 8; wide++) {
            PaidHouse x = new PaidHouse();
            x.rows(wide);
            x.seat(0, 0, 0);
            x.seat(wide, 1, 0);
            x.seconds(2);
            x.plan(1, 0, 1);
            Checks.law(x, 0, "c(n=1&z=0)");
            Checks.law(x, 1, "c(n=1)");
            x.paid(0, 1);
            same("behind him in rows of " + wide, x.more(1), 2);
            seated(x, 1, 1, bits(0), 2);
            Checks.law(x, 0, "c(t=0)");
            Checks.law(x, 1, "c(n=1&w=1)");
            same("silent in rows of " + wide, x.silent(0), 2);
            same("silent in rows of " + wide, x.silent(1), 2);
            Checks.law(x, 0, "c(l=1)");
            same("begins in rows of " + wide, x.begins(), bits(0));
        }
    }

    // ---- two tenors ----

    /** "m SUMS (0 to m - 1; m 2 to 5): a TABLE of what each has by it (-1000 to 1000, told; 0 at first)" */
    private static void tableAndSums() {
        PaidHouse x = new PaidHouse();
        for (int m = 2; m <= 5; m++) {
            same("all like at first", x.rests(m, -1), m * m);
            same("the last of them", x.rests(m, m * m - 1), 6 * (m - 1));
            same("none behind it", x.rests(m, m * m), -1);
        }
        Checks.span("table of", 0, 1, who -> x.table(who, 0, 0, 0));
        Checks.span("table, first sum", 0, 4, a -> x.table(0, a, 0, 0));
        Checks.span("table, second sum", 0, 4, b -> x.table(1, 0, b, 0));
        Checks.span("table, has", -1000, 1000, has -> x.table(0, 2, 2, has));
        Checks.span("rests with", 2, 5, m -> x.rests(m, -1), -1);
        Checks.span("rests, place", -1, 8, what -> new PaidHouse().rests(3, what), -1);
    }

    /** 0 at first: neither one more nor one less than 0 told is like it. */
    private static void zeroAtFirst() {
        for (int who = 0; who < 2; who++) {
            for (int sum = 0; sum < 5; sum++) {
                PaidHouse x = new PaidHouse();
                x.table(who, sum, sum, 0);
                same("0 is like the others", x.rests(5, -1), 25);
                x.table(who, sum, sum, 1);
                same("1 is more than 4 others", x.rests(5, -1), 21);
                x.table(who, sum, sum, -1);
                same("-1 is less", x.rests(5, -1), 24);
                same("refused", x.table(who, sum, sum, 1001), false);
                same("stays", x.rests(5, -1), 24);
            }
        }
    }

    private static void same(String what, boolean got, boolean want) {
        Checks.same(what, got, want);
    }

    /** "pairs of SUMS in which neither would have more by another one alone"; "as 5 times a, and b (by a, then b)" */
    private static void neitherWouldHaveMore() {
        PaidHouse x = new PaidHouse();
        x.table(0, 4, 0, -1000);
        x.table(1, 0, 4, 1000);
        same("(0, 4) alone rests in row 0", x.rests(5, 0), 4);
        same("without (4, 0) and (0, 0) to (0, 3)", x.rests(5, -1), 20);
        same("the last one", x.rests(5, 19), 24);
        same("none behind it", x.rests(5, 20), -1);
        same("sum 4 is not there with 4", x.rests(4, -1), 16);
        same("by a, then b", x.rests(4, 4), 5);
        PaidHouse none = new PaidHouse();
        none.table(0, 0, 0, 1000);
        none.table(0, 1, 1, 1000);
        none.table(1, 0, 1, 1);
        none.table(1, 1, 0, 1);
        same("none rests", none.rests(2, -1), 0);
        same("so there is no first one", none.rests(2, 0), -1);
        same("with three sums (2, 2) does", none.rests(3, 0), 12);
        same("and no other", none.rests(3, 1), -1);
    }

    // ---- reels ----

    private static long ways(int of, int take) {
        return take < 0 || take > of ? 0 : take == 0 ? 1 : ways(of - 1, take - 1) * of / take;
    }

    private static void funnier(int n, int m, int k, int j, long above, long below) {
        PaidHouse x = new PaidHouse();
        String what = "funnier " + n + " " + m + " " + k + " " + j;
        same(what, x.funnier(n, m, k, j, 0), above);
        same(what + ", below the line", x.funnier(n, m, k, j, 1), below);
    }

    /** "of n homes (1 to 20), m (0 to n) have a box ..; of these k laughed, of the others j" */
    private static void homes() {
        for (int n : new int[] {1, 2, 7, 20}) {
            for (int m : new int[] {0, 1, n / 2, n}) {
                PaidHouse x = new PaidHouse();
                Checks.span("so many boxes", 0, n, boxes -> x.funnier(n, boxes, 0, 0, 0), -1);
                Checks.span("laughed with a box", 0, m, k -> x.funnier(n, m, k, 0, 1), -1);
                Checks.span("laughed without", 0, n - m, j -> x.funnier(n, m, 0, j, 0), -1);
                Checks.span("what", 0, 1, what -> x.funnier(n, m, 0, 0, what), -1);
            }
        }
        PaidHouse x = new PaidHouse();
        Checks.span("homes", 1, 20, n -> x.funnier(n, 0, 0, 0, 0), -1);
        Checks.span("homes, one box", 1, 20, n -> x.funnier(n, 1, 0, 0, 1), -1);
    }

    /** "the ODDS that k or more of those with a box laughed: a fraction", "without a common divisor" */
    private static void odds() {
        for (int n = 1; n <= 20; n++) {
            for (int m = 0; m <= n; m++) {
                funnier(n, m, 0, n - m, 1, 1);
                funnier(n, m, m, n - m, 1, 1);
                funnier(n, m, 0, 0, 1, 1);
                funnier(n, m, m, 0, 1, ways(n, m));
            }
        }
        funnier(20, 10, 10, 0, 1, 184756);
        funnier(20, 10, 9, 1, 101, 184756);
        funnier(20, 10, 1, 9, 184755, 184756);
        funnier(4, 2, 1, 0, 1, 2);
        funnier(6, 3, 1, 1, 4, 5);
    }

    // ---- years ----

    /** "so many admirers (0 to 10000 each); each YEAR (1 to 50) .. so many thousandths (0 to 1000)" */
    private static void yearsOneToFifty() {
        PaidHouse x = Checks.people(2, 1, "");
        Checks.span("admirers of the first", 0, 10000, first -> x.years(first, 3, 2, 1), -1);
        Checks.span("admirers of the second", 0, 10000, second -> x.years(3, second, 2, 1), -1);
        Checks.span("years", 1, 50, years -> x.years(3, 3, years, 1), -1);
        Checks.span("thousandths", 0, 1000, parts -> x.years(3, 3, 2, parts), -1);
        x.paid(0, 1);
        for (int act = 1; act <= 2; act++) {
            x.plan(1, 0, act);
            Checks.span("admirers of the first, louder by " + act, 0, 10000, n -> x.years(n, 7, 1, 500), -1);
            Checks.span("admirers of the second, louder by " + act, 0, 10000, n -> x.years(7, n, 1, 500), -1);
            Checks.span("years, louder by " + act, 1, 50, n -> x.years(7, 7, n, 500), -1);
            Checks.span("thousandths, louder by " + act, 0, 1000, n -> x.years(7, 7, 1, n), -1);
        }
    }

    /** "rounded down; as many each: nothing: admirers of the first one in the end" */
    private static void roundedDown() {
        PaidHouse x = Checks.people(2, 1, "");
        x.paid(0, 1);
        x.paid(1, 2);
        same("as many each: nothing", x.years(10000, 10000, 50, 1000), 10000);
        x.plan(1, 0, 1);
        same("999 by one thousandth", x.years(0, 999, 50, 1), 0);
        same("1000 by one thousandth: once, then 999", x.years(0, 1000, 50, 1), 1);
        same("1999 by one thousandth", x.years(0, 1999, 1, 1), 1);
        same("1 by 999 thousandths", x.years(0, 1, 50, 999), 0);
        same("1 by 1000 thousandths", x.years(0, 1, 1, 1000), 1);
        same("all in one year", x.years(10000, 10000, 1, 1000), 20000);
        same("all in fifty", x.years(10000, 10000, 50, 1000), 20000);
        same("nothing of all", x.years(10000, 10000, 50, 0), 10000);
        same("nobody has any", x.years(0, 0, 50, 1000), 0);
        x.plan(2, 0, 1);
        same("as loud again", x.years(1, 10000, 50, 1000), 1);
        x.plan(1, 0, 0);
        same("the second: 999 by one thousandth", x.years(999, 0, 50, 1), 999);
        same("the second: 1000 by one thousandth", x.years(1000, 0, 50, 1), 999);
        same("the second: all", x.years(10000, 10000, 1, 1000), 0);
        same("the second: half of 10001 parts", x.years(9999, 0, 1, 500), 5000);
        x.plan(1, 0, 2);
        x.plan(2, 0, 0);
        same("who is less loud by a hiss", x.years(10000, 0, 1, 1000), 0);
    }

    public static void main(String[] args) {
        oneToThree();
        justSoMany();
        ofAllTwentyFour();
        leastAsBits();
        greatestOrLeast();
        noneToThree();
        fromThenOn();
        nobodyBeingPaid();
        leastOfLikeOnes();
        silent();
        rowsAsTold();
        tableAndSums();
        zeroAtFirst();
        neitherWouldHaveMore();
        homes();
        odds();
        yearsOneToFifty();
        roundedDown();
        Checks.end("EdgeSetsTest");
    }
}
