/**
 * The sentences of the document that name an edge of the house and its evening: Terms, part 1, LOUD to COSTS, MORE and
 * WINS; promises 1 to 7, 10 to 16 and 29. Each test stands under the words that it holds the class to.
 */
public final class EdgeHouseTest {
    private static final int ALL = (1 << 24) - 1;

    private static void same(String what, long got, long want) {
        Checks.same(what, got, want);
    }

    private static void same(String what, boolean got, boolean want) {
        Checks.same(what, got, want);
    }

    private static int showing(PaidHouse x, int t, int act) {
        int found = 0;
        for (int s = 0; s < 24; s++) {
            found |= x.shows(s, t) == act ? 1 << s : 0;
        }
        return found;
    }

    // ---- a new object ----

    /** "Rows of 6 SEATS, all empty; 1 SECOND; PRICES 1 and 1." */
    private static void aNewObject() {
        PaidHouse x = new PaidHouse();
        int[] want = {6, 0, 1, 0, 0, 1, 1};
        for (int i = 0; i < want.length; i++) {
            same("new: count " + i, x.count(i), want[i]);
        }
        for (int s = 0; s < 24; s++) {
            same("new: sort of " + s, x.count(20 + s), -1);
            same("new: payer of " + s, x.count(50 + s), -1);
            same("new: shows " + s, x.shows(s, 0), -1);
            same("new: otherwise " + s, x.otherwise(s), -1);
        }
        same("new: second 0 is there", x.loud(0, 0), 0);
        same("new: nobody hisses", x.loud(0, 1), 0);
        same("new: second 1 is not there", x.loud(1, 0), -1);
    }

    /** Nothing there: no PERSONS, no law, no EVENING kept, an empty tape. */
    private static void nothingThere() {
        PaidHouse x = new PaidHouse();
        same("nobody: house", x.house(), 0);
        same("nobody: wins", x.wins(), 0);
        same("nobody: begins", x.begins(), -1);
        for (int stick = 1; stick <= 2; stick++) {
            same("nobody: costs", x.costs(stick), 0);
            same("nobody: more", x.more(stick), 0);
            same("nobody: seated", x.seated(stick, 1, 0), -1);
            same("nobody: seated, the house", x.seated(stick, 1, 1), -1000000);
        }
        for (int what = 0; what < 3; what++) {
            same("nobody: silent " + what, x.silent(what), 0);
        }
        same("none kept: one way", x.hears(0), 0);
        same("none kept: not", x.hears(1), 0);
        same("none kept: suspects", x.suspects(1), 0);
        same("empty tape: law", x.law(0, 1), -1);
        same("empty tape: check", x.check(1), -2);
        same("nobody: years", x.years(7, 9, 50, 1000), 7);
        same("nobody: an evening can be kept", x.keep(), 1);
        same("nobody: no suspects in it", x.suspects(1), 0);
    }

    /** "GOOD, by who knows and by who doesn't (0 to 100 each; 0 at first)." */
    private static void goodAtFirst() {
        PaidHouse x = Checks.people(2, 40, "c(g=0);h(1=1)");
        x.seat(1, 0, 1);
        for (int t = 0; t < 40; t++) {
            same("good is 0 at first, second " + t, x.loud(t, 0), 2);
        }
    }

    /** "A STICK's PLAN: acts at SECONDS: 1 CLAP, 2 HISS (0 nothing at first)" */
    private static void planAtFirst() {
        PaidHouse x = Checks.people(2, 40, "c(1=1)");
        x.paid(0, 1);
        x.paid(1, 2);
        for (int t = 0; t < 40; t++) {
            same("no plan of 1 at first, second " + t, x.shows(0, t), 0);
            same("no plan of 2 at first, second " + t, x.shows(1, t), 0);
        }
    }

    /** "(none at first: nothing is shown)" */
    private static void lawAtFirst() {
        PaidHouse x = new PaidHouse();
        x.seconds(40);
        for (int sort = 0; sort < 4; sort++) {
            x.seat(sort, sort, sort % 2);
            same("no clauses of sort " + sort, x.count(10 + sort), 0);
        }
        for (int t = 0; t < 40; t++) {
            for (int sort = 0; sort < 4; sort++) {
                same("no law of sort " + sort + ": second " + t, x.shows(sort, t), 0);
            }
        }
    }

    // ---- seats and rows ----

    /** "a row has 4 to 8 SEATS" */
    private static void rowsFourToEight() {
        PaidHouse x = new PaidHouse();
        Checks.span("rows", 4, 8, x::rows);
        for (int n = 4; n <= 8; n++) {
            same("rows " + n, x.rows(n), true);
            same("rows told " + n, x.count(0), n);
            same("rows refused", x.rows(n == 8 ? 9 : 3), false);
            same("rows stay " + n, x.count(0), n);
        }
    }

    /** "false: .. a PERSON is there." On whatever seat, and with whatever number. */
    private static void noOtherRowsWithAPerson() {
        for (int s = 0; s < 24; s++) {
            PaidHouse x = new PaidHouse();
            x.rows(5);
            x.seat(s, 0, 0);
            for (int n = 4; n <= 8; n++) {
                same("rows with a person on " + s, x.rows(n), false);
            }
            same("rows stay", x.count(0), 5);
            x.seat(s, -1, 0);
            same("rows when he has left", x.rows(8), true);
        }
    }

    /** "SEAT s is in row s through that" */
    private static void rowOfEachSeat() {
        for (int wide = 4; wide <= 8; wide++) {
            for (int row = 0; row < 7; row++) {
                PaidHouse x = new PaidHouse();
                x.rows(wide);
                for (int s = 0; s < 24; s++) {
                    x.seat(s, 0, 0);
                }
                Checks.law(x, 0, "c(w=" + row + ")");
                int want = 0;
                for (int s = row * wide; s < row * wide + wide && s < 24; s++) {
                    want |= 1 << s;
                }
                same("row " + row + " of " + wide, showing(x, 0, 1), want);
            }
        }
    }

    /** The seats as they stand, row by row; -1 where the last row has ended. */
    private static int seatAt(int wide, int row, int place) {
        int s = row * wide + place;
        return row < 0 || place < 0 || place >= wide || s > 23 ? -1 : s;
    }

    private static int around(int wide, int s) {
        int set = 0;
        for (int row = 0; row < 6; row++) {
            for (int place = 0; place < wide; place++) {
                if (seatAt(wide, row, place) != s) {
                    continue;
                }
                int[] near = {seatAt(wide, row, place - 1), seatAt(wide, row, place + 1),
                    seatAt(wide, row - 1, place), seatAt(wide, row + 1, place)};
                for (int o : near) {
                    set |= o >= 0 ? 1 << o : 0;
                }
            }
        }
        return set;
    }

    /** A house in which seat s alone acts at second 0; who counts just one such neighbour then claps. */
    private static int counting(int wide, int s, int act, String letter) {
        PaidHouse x = new PaidHouse();
        x.rows(wide);
        x.seconds(2);
        for (int o = 0; o < 24; o++) {
            x.seat(o, o == s ? 1 : 0, 0);
        }
        x.paid(s, 2);
        x.plan(2, 0, act);
        Checks.law(x, 0, "c(t=1&" + letter + "=1)");
        return showing(x, 1, 1);
    }

    /**
     * "NEIGHBOURS of a SEAT: those next to it in its row, and those right ahead of it and behind it." Nobody is next to
     * the end of a row, ahead of the first one, behind the last one (which is shorter with rows of 5 and 7).
     */
    private static void neighboursOfEachSeat() {
        for (int wide = 4; wide <= 8; wide++) {
            for (int s = 0; s < 24; s++) {
                int want = around(wide, s);
                same("n beside " + s + " in rows of " + wide, counting(wide, s, 1, "n"), want);
                same("z beside " + s + " in rows of " + wide, counting(wide, s, 2, "z"), want);
                same("q beside " + s + " in rows of " + wide, counting(wide, s, 0, "q"), want);
            }
        }
    }

    /** "SEATS 0 to 23", "a SORT 0 to 3, KNOWS (1, 0)" */
    private static void seatsZeroToTwentyThree() {
        PaidHouse x = new PaidHouse();
        Checks.span("seat", 0, 23, s -> x.seat(s, 0, 0));
        Checks.span("seat, sort", -1, 3, sort -> x.seat(5, sort, 0));
        Checks.span("seat, knows", 0, 1, knows -> x.seat(6, 2, knows));
        Checks.span("seat left", 0, 23, s -> x.seat(s, -1, 0));
        same("seated: 5 and 6 alone", x.count(1), 2);
        same("sort of 5", x.count(25), 3);
        same("sort of 6", x.count(26), 2);
    }

    private static void allSortsAndKnows() {
        PaidHouse x = new PaidHouse();
        for (int s = 0; s < 24; s++) {
            same("empty before", x.count(20 + s), -1);
            same("taken " + s, x.seat(s, s % 4, s / 4 % 2), true);
            same("so many persons", x.count(1), s + 1);
        }
        for (int sort = 0; sort < 4; sort++) {
            Checks.law(x, sort, "c(k=1);h(k=0)");
        }
        for (int s = 0; s < 24; s++) {
            same("sort of " + s, x.count(20 + s), s % 4);
            same("whether he knows " + s, x.shows(s, 0), s / 4 % 2 == 1 ? 1 : 2);
        }
    }

    /** All 24 SEATS taken: one more time on each is another PERSON there, not one more. */
    private static void allSeatsTaken() {
        PaidHouse x = Checks.people(24, 1, "c(p=24)");
        same("24 persons", x.count(1), 24);
        same("p is 24", x.loud(0, 0), 24);
        for (int s = 0; s < 24; s++) {
            same("taken again", x.seat(s, 0, 1), true);
        }
        same("24 persons still", x.count(1), 24);
        for (int s = 0; s < 24; s++) {
            same("left", x.seat(s, -1, 0), true);
            same("one less", x.count(1), 23 - s);
        }
        same("nobody claps", x.loud(0, 0), 0);
    }

    /** "(SORT NONE: it is empty then, with what he was PAID)" */
    private static void emptyWithWhatHeWasPaid() {
        PaidHouse x = Checks.people(2, 1, "c(q=1);h(q=0)");
        for (int by = 1; by <= 2; by++) {
            x.seat(0, 1, 1);
            x.paid(0, by);
            same("the stick is seen", x.shows(1, 0), 1);
            same("leaves", x.seat(0, -1, 0), true);
            same("empty: sort", x.count(20), -1);
            same("empty: payer", x.count(50), -1);
            same("empty: shows", x.shows(0, 0), -1);
            same("empty: otherwise", x.otherwise(0), -1);
            same("empty: persons", x.count(1), 1);
            same("no stick is seen", x.shows(1, 0), 2);
            same("an empty seat can be left", x.seat(0, -1, 1), true);
            x.seat(0, 0, 0);
            same("who comes then is paid by nobody", x.count(50), 0);
            same("and costs nothing", x.plan(by, 0, 1) ? x.costs(by) : -9, 0);
            x.plan(by, 0, 0);
        }
    }

    /** "A PERSON is PAID by nobody (0), by STICK 1 or by STICK 2."; an empty SEAT: refused. */
    private static void paidByNoneOneOrTwo() {
        PaidHouse x = new PaidHouse();
        for (int s = 0; s < 24; s++) {
            same("nobody is there " + s, x.paid(s, 1), false);
            same("nobody is there, by nobody " + s, x.paid(s, 0), false);
            x.seat(s, 0, 0);
            same("at first by nobody " + s, x.count(50 + s), 0);
        }
        Checks.span("paid", 0, 23, s -> x.paid(s, 1));
        Checks.span("paid by", 0, 2, by -> x.paid(7, by));
        for (int by : new int[] {1, 2, 1, 0, 2, 0}) {
            same("paid by " + by, x.paid(11, by), true);
            same("told by " + by, x.count(61), by);
            same("refused", x.paid(11, 3), false);
            same("stays by " + by, x.count(61), by);
        }
    }

    /** "(1 and 2 have a PLAN each)", "for all that it has PAID": one, none, all 24. */
    private static void allThatItHasPaid() {
        PaidHouse x = Checks.people(24, 1, "h(1=1)");
        x.plan(1, 0, 1);
        same("nobody is paid", x.loud(0, 0), 0);
        x.paid(23, 1);
        same("one is paid", showing(x, 0, 1), 1 << 23);
        for (int s = 0; s < 24; s++) {
            x.paid(s, 1);
        }
        same("all are paid", showing(x, 0, 1), ALL);
        x.plan(2, 0, 2);
        same("the other plan is not theirs", x.loud(0, 1), 0);
        for (int s = 0; s < 24; s++) {
            x.paid(s, 2);
        }
        same("all by the other", showing(x, 0, 2), ALL);
    }

    // ---- the evening ----

    /** "AN EVENING has n SECONDS (1 to 40), 0 to n less 1" */
    private static void secondsOneToForty() {
        PaidHouse x = Checks.people(1, 1, "");
        Checks.span("seconds", 1, 40, x::seconds);
        for (int n : new int[] {1, 2, 20, 39, 40}) {
            same("seconds " + n, x.seconds(n), true);
            same("told " + n, x.count(2), n);
            same("refused", x.seconds(n == 40 ? 41 : 0), false);
            same("stays " + n, x.count(2), n);
            Checks.span("shows with " + n, 0, n - 1, t -> x.shows(0, t), -1);
            Checks.span("loud with " + n, 0, n - 1, t -> x.loud(t, 0), -1);
            Checks.span("loud, hisses with " + n, 0, n - 1, t -> x.loud(t, 1), -1);
        }
    }

    /** "(What was told of later ones stays.)" Told before the evening has them, and after it has them no more. */
    private static void laterSecondsStay() {
        PaidHouse x = Checks.people(3, 1, "c(g=41);h(g=77)");
        x.seat(1, 0, 1);
        x.paid(2, 1);
        same("good of second 39", x.good(39, 41, 77), true);
        same("plan of second 39", x.plan(1, 39, 1), true);
        same("not yet there", x.shows(0, 39), -1);
        for (int i = 0; i < 2; i++) {
            x.seconds(40);
            same("good by who doesn't know", x.shows(0, 39), 2);
            same("good by who knows", x.shows(1, 39), 1);
            same("the plan", x.shows(2, 39), 1);
            same("the house", x.house(), 1);
            x.seconds(39);
            same("a second less", x.house(), 0);
            x.seconds(1);
        }
    }

    /** "SECONDS 0 to 39 of AN EVENING: GOOD, by who knows and by who doesn't (0 to 100 each ..)" */
    private static void goodZeroToAHundred() {
        PaidHouse x = new PaidHouse();
        Checks.span("good at", 0, 39, t -> x.good(t, 1, 1));
        Checks.span("good by who knows", 0, 100, good -> x.good(3, good, 0));
        Checks.span("good by others", 0, 100, good -> x.good(4, 0, good));
        PaidHouse y = Checks.people(2, 40, "c(g=100);h(g=0)");
        y.seat(1, 0, 1);
        for (int t : new int[] {0, 39}) {
            same("good", y.good(t, 100, 0), true);
            same("100 for who knows", y.shows(1, t), 1);
            same("0 for who doesn't", y.shows(0, t), 2);
            same("refused", y.good(t, 0, 101), false);
            same("refused", y.good(t, -1, 100), false);
            same("stays for who knows", y.shows(1, t), 1);
            same("stays for who doesn't", y.shows(0, t), 2);
            y.good(t, 0, 100);
            same("0 for who knows", y.shows(1, t), 2);
            same("100 for who doesn't", y.shows(0, t), 1);
            y.good(t, 50, 50);
        }
        same("no other second was told", y.loud(1, 1) + y.loud(38, 1), 4);
    }

    /** "An act of the PLAN of a STICK (1, 2) at SECOND t (0 to 2)" */
    private static void planOfTwoSticks() {
        PaidHouse x = new PaidHouse();
        Checks.span("plan of", 1, 2, stick -> x.plan(stick, 0, 1));
        Checks.span("plan at", 0, 39, t -> x.plan(1, t, 1));
        Checks.span("plan, act", 0, 2, act -> x.plan(2, 0, act));
        PaidHouse y = Checks.people(2, 40, "");
        y.paid(0, 1);
        y.paid(1, 2);
        for (int t : new int[] {0, 39}) {
            for (int act = 2; act >= 0; act--) {
                same("plan", y.plan(1, t, act), true);
                same("plan of the other", y.plan(2, t, 2 - act), true);
                same("refused", y.plan(1, t, 3), false);
                same("refused", y.plan(2, t, -1), false);
                same("shown", y.shows(0, t), act);
                same("shown by the other's", y.shows(1, t), 2 - act);
            }
        }
        same("no other second was told", y.house(), -2);
    }

    /** "asked by what was shown in the SECOND before (0 ahead of the first)" */
    private static void nothingAheadOfTheFirst() {
        PaidHouse x = Checks.people(24, 2, "c(t=0&n=0&z=0&a=0&b=0&l=0);h(t=1&a=24&b=0&l=1)");
        same("ahead of the first nothing was shown", showing(x, 0, 1), ALL);
        same("then all had clapped", showing(x, 1, 2), ALL);
        same("asked once more", showing(x, 0, 1), ALL);
        x.seconds(1);
        same("asked for one second", showing(x, 0, 1), ALL);
    }

    /** "shows(s, t) .. NONE: no such ones, the SEAT is empty." */
    private static void showsOnSeats() {
        PaidHouse x = new PaidHouse();
        x.seconds(2);
        for (int s = 0; s < 24; s++) {
            same("empty " + s, x.shows(s, 0), -1);
            x.seat(s, 0, 0);
            same("taken " + s, x.shows(s, 1), 0);
        }
        Checks.span("shows", 0, 23, s -> x.shows(s, 0), -1);
    }

    /** "what 0 who clap, 1 who hiss (how many). NONE for others."; THE HOUSE of nobody and of all. */
    private static void loudAndHouse() {
        PaidHouse x = Checks.people(24, 40, "c(1=1)");
        Checks.span("loud", 0, 1, what -> x.loud(0, what), -1);
        same("all clap at the first", x.loud(0, 0), 24);
        same("all clap at the last", x.loud(39, 0), 24);
        same("nobody hisses", x.loud(39, 1), 0);
        same("the greatest house", x.house(), 960);
        Checks.law(x, 0, "h(1=1)");
        same("nobody claps", x.loud(39, 0), 0);
        same("all hiss", x.loud(39, 1), 24);
        same("the least house", x.house(), -960);
        Checks.law(x, 0, "c(s%2=0);h(s%2=1)");
        same("twelve clap", x.loud(20, 0), 12);
        same("twelve hiss", x.loud(20, 1), 12);
        same("as many", x.house(), 0);
        Checks.law(x, 0, "h(s=23&t=39)");
        same("a house of -1 is no refusal", x.house(), -1);
        x.seconds(39);
        same("a second less", x.house(), 0);
    }

    // ---- what it costs and brings ----

    /** "PRICES: of a CLAP, of a HISS (0 to 100 each)" */
    private static void pricesZeroToAHundred() {
        PaidHouse x = new PaidHouse();
        Checks.span("price of a clap", 0, 100, clap -> x.prices(clap, 5));
        Checks.span("price of a hiss", 0, 100, hiss -> x.prices(5, hiss));
        same("prices", x.prices(100, 0), true);
        same("refused", x.prices(-1, 50), false);
        same("refused", x.prices(50, 101), false);
        same("a clap", x.count(5), 100);
        same("a hiss", x.count(6), 0);
    }

    /** "for each PERSON PAID and SECOND at which his PLAN says so: what a STICK COSTS"; "NONE: no such one." */
    private static void costs() {
        PaidHouse x = Checks.people(24, 40, "");
        Checks.span("costs", 1, 2, x::costs, -1);
        for (int s = 0; s < 24; s++) {
            x.paid(s, 2);
        }
        same("a plan of nothing", x.costs(2), 0);
        for (int t = 0; t < 40; t++) {
            x.plan(2, t, 1);
        }
        same("all clap always", x.costs(2), 960);
        same("nobody is the other's", x.plan(1, 0, 1) ? x.costs(1) : -9, 0);
        x.prices(100, 0);
        same("for 100 each", x.costs(2), 96000);
        x.plan(2, 39, 2);
        same("a hiss for nothing", x.costs(2), 93600);
        x.prices(0, 100);
        same("claps for nothing", x.costs(2), 2400);
        x.seconds(39);
        same("the evening's seconds alone", x.costs(2), 0);
    }

    /** "MORE by a STICK; -1000000: no such one."; nobody and all PAID by it. */
    private static void more() {
        PaidHouse x = Checks.people(24, 40, "h(1=1)");
        Checks.span("more", 1, 2, x::more, -1000000);
        same("nobody is paid", x.more(1), 0);
        for (int t = 0; t < 40; t++) {
            x.plan(1, t, 1);
        }
        for (int s = 0; s < 24; s++) {
            x.paid(s, 1);
        }
        same("the most", x.more(1), 1920);
        same("the other adds nothing", x.more(2), 0);
        for (int t = 0; t < 40; t++) {
            x.plan(1, t, 2);
        }
        Checks.law(x, 0, "c(1=1)");
        same("the least", x.more(1), -1920);
        same("still all are paid", x.count(50) + x.count(73), 2);
    }

    /** "of PERSONS PAID by nobody, at the last SECOND: who show what its PLAN says then (0: none)" */
    private static void wins() {
        PaidHouse x = Checks.people(24, 40, "c(t=39&s>11);h(t=39)");
        same("no plans", x.wins(), 0);
        x.plan(1, 38, 1);
        same("a plan a second too early", x.wins(), 0);
        x.plan(1, 39, 1);
        same("twelve against none", x.wins(), 1);
        x.plan(2, 39, 2);
        same("twelve each", x.wins(), 0);
        x.paid(23, 1);
        same("eleven and twelve", x.wins(), 2);
        x.paid(0, 2);
        same("eleven each", x.wins(), 0);
        x.paid(1, 1);
        same("eleven and ten", x.wins(), 1);
        for (int s = 0; s < 24; s++) {
            x.paid(s, 1 + s % 2);
        }
        same("all are paid", x.wins(), 0);
        x.paid(12, 0);
        same("one is not", x.wins(), 1);
        x.plan(1, 39, 0);
        same("a plan of nothing has none", x.wins(), 0);
        PaidHouse y = Checks.people(1, 1, "");
        same("who shows nothing is with nobody", y.wins(), 0);
    }

    // ---- count, and how long an object is used ----

    /** "NONE for others", "(empty: NONE for both)" */
    private static void counts() {
        PaidHouse x = new PaidHouse();
        PaidHouse y = Checks.people(24, 1, "");
        int[] firsts = {6, 24, 1, 0, 0, 1, 1};
        for (int what = -200; what < 200; what++) {
            boolean first = what >= 0 && what <= 6;
            boolean clauses = what >= 10 && what <= 13;
            boolean seat = what >= 20 && what <= 43 || what >= 50 && what <= 73;
            same("count " + what, y.count(what), first ? firsts[what] : clauses || seat ? 0 : -1);
        }
        for (int what : new int[] {20, 43, 50, 73}) {
            same("count " + what + " of an empty seat", x.count(what), -1);
        }
        for (int what : new int[] {Integer.MIN_VALUE, Integer.MAX_VALUE, 256, 65536, 1 << 24, -256, 276, 306}) {
            same("count " + what, y.count(what), -1);
        }
    }

    /** "An object is used for at most 512 calls": the last one of them is answered as the first. */
    private static void fiveHundredAndTwelveCalls() {
        PaidHouse x = new PaidHouse();
        for (int i = 0; i < 510; i++) {
            boolean fine = i % 3 == 0 ? x.seat(i % 24, 0, 1) : i % 3 == 1 ? x.good(i % 40, 9, 9) : x.house() == 0;
            same("call " + i, fine, true);
        }
        same("call 511", x.count(1), 8);
        same("call 512", x.house(), 0);
    }

    public static void main(String[] args) {
        aNewObject();
        nothingThere();
        goodAtFirst();
        planAtFirst();
        lawAtFirst();
        rowsFourToEight();
        noOtherRowsWithAPerson();
        rowOfEachSeat();
        neighboursOfEachSeat();
        seatsZeroToTwentyThree();
        allSortsAndKnows();
        allSeatsTaken();
        emptyWithWhatHeWasPaid();
        paidByNoneOneOrTwo();
        allThatItHasPaid();
        secondsOneToForty();
        laterSecondsStay();
        goodZeroToAHundred();
        planOfTwoSticks();
        nothingAheadOfTheFirst();
        showsOnSeats();
        loudAndHouse();
        pricesZeroToAHundred();
        costs();
        more();
        wins();
        counts();
        fiveHundredAndTwelveCalls();
        Checks.end("EdgeHouseTest");
    }
}
