/** Each promise by calls whose answers were reckoned by hand: ordinary ones, edges, wrong ones. */
public final class PromiseTest {
    private static final int[] FAR = {Integer.MIN_VALUE, -1000, Integer.MAX_VALUE, 1 << 24, 256};

    private static void same(String what, long got, long want) {
        Checks.same(what, got, want);
    }

    private static void same(String what, boolean got, boolean want) {
        Checks.same(what, got, want);
    }

    private static PaidHouse people(int n, int seconds, String law) {
        return Checks.people(n, seconds, law);
    }

    private static void p1NewObject() {
        PaidHouse x = new PaidHouse();
        int[] want = {6, 0, 1, 0, 0, 1, 1};
        for (int i = 0; i < want.length; i++) {
            same("p1 count " + i, x.count(i), want[i]);
        }
        for (int s = 0; s < 24; s++) {
            same("p1 sort", x.count(20 + s), -1);
            same("p1 paid", x.count(50 + s), -1);
        }
        same("p1 house", x.house(), 0);
        same("p1 all pairs rest", x.rests(5, -1), 25);
        x.seat(3, 0, 1);
        x.seat(4, 1, 0);
        Checks.law(x, 0, "c(g=0)");
        same("p1 good is 0", x.shows(3, 0), 1);
        same("p1 no law", x.shows(4, 0), 0);
        x.paid(3, 1);
        same("p1 no plan", x.shows(3, 0), 0);
        same("p1 no plan of 2", x.paid(3, 2) ? x.shows(3, 0) : -9, 0);
    }

    private static void p2Rows() {
        PaidHouse x = new PaidHouse();
        same("p2 3", x.rows(3), false);
        same("p2 9", x.rows(9), false);
        for (int n : FAR) {
            same("p2 far", x.rows(n), false);
        }
        for (int n = 4; n <= 8; n++) {
            same("p2 " + n, x.rows(n), true);
            same("p2 count", x.count(0), n);
        }
        x.seat(23, 0, 0);
        same("p2 a person", x.rows(8), false);
        same("p2 a person, other", x.rows(4), false);
        same("p2 stays", x.count(0), 8);
        x.seat(23, -1, 0);
        same("p2 nobody again", x.rows(4), true);
    }

    /** Seat s alone claps at second 0; who counts a neighbour clapping at second 1 is told. */
    private static int neighbours(int wide, int s) {
        PaidHouse x = new PaidHouse();
        x.rows(wide);
        x.seconds(2);
        for (int o = 0; o < 24; o++) {
            x.seat(o, o == s ? 1 : 0, 0);
        }
        x.paid(s, 1);
        x.plan(1, 0, 1);
        Checks.law(x, 0, "c(n=1&q=1);h(n>0|q>0)");
        int found = 0;
        for (int o = 0; o < 24; o++) {
            found |= x.shows(o, 1) == 1 ? 1 << o : 0;
        }
        return found;
    }

    private static int bits(int... seats) {
        return Checks.bits(seats);
    }

    private static void p2Neighbours() {
        same("6: 0", neighbours(6, 0), bits(1, 6));
        same("6: 5", neighbours(6, 5), bits(4, 11));
        same("6: 8", neighbours(6, 8), bits(7, 9, 2, 14));
        same("6: 23", neighbours(6, 23), bits(22, 17));
        same("4: 4", neighbours(4, 4), bits(0, 5, 8));
        same("4: 20", neighbours(4, 20), bits(16, 21));
        same("5: 4", neighbours(5, 4), bits(3, 9));
        same("5: 19", neighbours(5, 19), bits(18, 14));
        same("5: 18", neighbours(5, 18), bits(17, 19, 13, 23));
        same("5: 23", neighbours(5, 23), bits(22, 18));
        same("7: 20", neighbours(7, 20), bits(19, 13));
        same("7: 16", neighbours(7, 16), bits(15, 17, 9, 23));
        same("7: 23", neighbours(7, 23), bits(22, 16));
        same("8: 7", neighbours(8, 7), bits(6, 15));
        same("8: 23", neighbours(8, 23), bits(22, 15));
    }

    private static void p3Seat() {
        PaidHouse x = new PaidHouse();
        int[][] no = {{-1, 0, 0}, {24, 0, 0}, {0, -2, 0}, {0, 4, 0}, {0, 0, -1}, {0, 0, 2}, {24, -1, 0}};
        for (int[] a : no) {
            same("p3 no such " + a[0] + " " + a[1] + " " + a[2], x.seat(a[0], a[1], a[2]), false);
        }
        for (int n : FAR) {
            same("p3 far seat", x.seat(n, 0, 0), false);
            same("p3 far sort", x.seat(0, n, 0), false);
            same("p3 far knows", x.seat(0, 0, n), false);
        }
        same("p3 nobody yet", x.count(1), 0);
        same("p3 first", x.seat(0, 0, 0), true);
        same("p3 last", x.seat(23, 3, 1), true);
        same("p3 sort", x.count(43), 3);
        same("p3 two", x.count(1), 2);
        same("p3 other sort", x.seat(23, 2, 0), true);
        same("p3 sort 2", x.count(43), 2);
        same("p3 still two", x.count(1), 2);
        x.paid(23, 2);
        x.seat(23, 1, 1);
        same("p3 paid stays with a person", x.count(73), 2);
        same("p3 leaves", x.seat(23, -1, 0), true);
        same("p3 empty", x.count(43), -1);
        same("p3 leaves once more", x.seat(23, -1, 1), true);
        x.seat(23, 1, 0);
        same("p3 pay is gone", x.count(73), 0);
        Checks.law(x, 1, "c(k=1);h(k=0)");
        same("p3 does not know", x.shows(23, 0), 2);
        x.seat(23, 1, 1);
        same("p3 knows", x.shows(23, 0), 1);
    }

    private static void p4Paid() {
        PaidHouse x = new PaidHouse();
        same("p4 empty", x.paid(0, 1), false);
        x.seat(0, 0, 0);
        same("p4 -1", x.paid(0, -1), false);
        same("p4 3", x.paid(0, 3), false);
        same("p4 no seat", x.paid(24, 0), false);
        same("p4 no seat below", x.paid(-1, 0), false);
        for (int n : FAR) {
            same("p4 far", x.paid(n, 1), false);
            same("p4 far by", x.paid(0, n), false);
        }
        same("p4 nobody", x.count(50), 0);
        for (int by : new int[] {1, 2, 1, 0, 2}) {
            same("p4 by", x.paid(0, by), true);
            same("p4 told", x.count(50), by);
        }
        x.plan(2, 0, 2);
        same("p4 shows the plan", x.shows(0, 0), 2);
        x.paid(0, 0);
        same("p4 goes by the law again", x.shows(0, 0), 0);
    }

    private static void p5Seconds() {
        PaidHouse x = people(1, 1, "c(g>40)");
        same("p5 0", x.seconds(0), false);
        same("p5 41", x.seconds(41), false);
        for (int n : FAR) {
            same("p5 far", x.seconds(n), false);
        }
        same("p5 40", x.seconds(40), true);
        same("p5 count", x.count(2), 40);
        x.good(39, 0, 41);
        same("p5 last", x.shows(0, 39), 1);
        same("p5 behind the last", x.shows(0, 40), -1);
        x.seconds(2);
        same("p5 shorter", x.house(), 0);
        same("p5 no such second", x.shows(0, 2), -1);
        x.seconds(40);
        same("p5 what was told stays", x.house(), 1);
    }

    private static void p6Good() {
        PaidHouse x = people(2, 2, "c(g=70);h(g=30)");
        x.seat(1, 0, 1);
        int[][] no = {{-1, 0, 0}, {40, 0, 0}, {0, -1, 0}, {0, 101, 0}, {0, 0, -1}, {0, 0, 101}};
        for (int[] a : no) {
            same("p6 no such", x.good(a[0], a[1], a[2]), false);
        }
        for (int n : FAR) {
            same("p6 far", x.good(n, 0, 0), false);
            same("p6 far knows", x.good(0, n, 0), false);
            same("p6 far others", x.good(0, 0, n), false);
        }
        same("p6 edges", x.good(0, 100, 0), true);
        same("p6 edges", x.good(39, 0, 100), true);
        same("p6 said", x.good(0, 70, 30), true);
        same("p6 who does not know", x.shows(0, 0), 2);
        same("p6 who knows", x.shows(1, 0), 1);
        same("p6 only then", x.shows(1, 1), 0);
        x.good(1, 30, 70);
        same("p6 now, not before", x.shows(1, 1), 2);
    }

    private static void p7Plan() {
        PaidHouse x = people(2, 2, "");
        int[][] no = {{0, 0, 0}, {3, 0, 0}, {1, -1, 0}, {1, 40, 0}, {1, 0, -1}, {1, 0, 3}};
        for (int[] a : no) {
            same("p7 no such", x.plan(a[0], a[1], a[2]), false);
        }
        for (int n : FAR) {
            same("p7 far", x.plan(n, 0, 1), false);
            same("p7 far second", x.plan(1, n, 1), false);
            same("p7 far act", x.plan(1, 0, n), false);
        }
        x.paid(0, 1);
        x.paid(1, 2);
        same("p7 1", x.plan(1, 0, 1), true);
        same("p7 2", x.plan(2, 1, 2), true);
        same("p7 later", x.plan(2, 39, 2), true);
        same("p7 shown", x.shows(0, 0), 1);
        same("p7 not the other's", x.shows(1, 0), 0);
        same("p7 the other's", x.shows(1, 1), 2);
        same("p7 taken back", x.plan(1, 0, 0), true);
        same("p7 nothing", x.shows(0, 0), 0);
    }

    private static void p8Feed() {
        PaidHouse x = new PaidHouse();
        for (int i = 1; i <= 25; i++) {
            same("p8 " + i, x.feed(-1, i, 0, 1, Integer.MIN_VALUE), 20 * i);
        }
        same("p8 full", x.feed(0, 0, 0, 0, 0), -1);
        same("p8 stays", x.count(3), 500);
        same("p8 highest byte first", x.law(0, 120), -1000);
        same("p8 empty", x.count(3), 0);
        same("p8 'c' comes first", x.feed('c' << 24 | '(' << 16 | '1' << 8 | '>', '0' << 24 | ')' << 16, 0, 0, 0), 20);
        same("p8 read", x.law(0, 6), 1);
    }

    private static void p9Law() {
        PaidHouse x = new PaidHouse();
        same("p9 no tape", x.law(0, 1), -1);
        Checks.feed(x, "c(g=0);h(g>0)");
        same("p9 no sort", x.law(4, 6), -1);
        same("p9 no sort below", x.law(-1, 6), -1);
        same("p9 0 bytes", x.law(0, 0), -1);
        same("p9 too many", x.law(0, 21), -1);
        same("p9 the tape stays", x.count(3), 20);
        for (int n : FAR) {
            same("p9 far", x.law(0, n), -1);
            same("p9 far sort", x.law(n, 6), -1);
        }
        same("p9 one clause", x.law(3, 6), 1);
        same("p9 the tape is empty", x.count(3), 0);
        same("p9 count", x.count(13), 1);
        same("p9 others have none", x.count(10), 0);
        x.seat(0, 3, 0);
        same("p9 holds", x.shows(0, 0), 1);
        same("p9 a fault", Checks.law(x, 3, "h(g=0"), -1005);
        same("p9 the tape is empty behind a fault", x.count(3), 0);
        same("p9 the text stays", x.shows(0, 0), 1);
        same("p9 its count stays", x.count(13), 1);
        same("p9 in its place", Checks.law(x, 3, "h(0>1);h(g=0)"), 2);
        same("p9 the new one", x.shows(0, 0), 2);
        StringBuilder text = new StringBuilder("c(1>0");
        while (text.length() < 119) {
            text.append("+0");
        }
        same("p9 120 bytes", Checks.law(x, 0, text + ")"), 1);
        for (int i = 0; i < 7; i++) {
            x.feed('c' << 24 | '(' << 16 | '1' << 8 | '>', '0' << 24 | ')' << 16, 0, 0, 0);
        }
        same("p9 121 bytes", x.law(0, 121), -1);
        same("p9 the tape stays there", x.count(3), 140);
        same("p9 behind it", x.law(0, 6), 1);
        same("p9 all of the tape goes", x.count(3), 0);
    }

    private static void p10Shows() {
        PaidHouse x = people(3, 4, "c(t=0&s=0);c(n>0);h(l=1)");
        int[][] want = {{1, 2, 1, 2}, {0, 1, 2, 1}, {0, 0, 1, 2}};
        for (int s = 0; s < 3; s++) {
            for (int t = 0; t < 4; t++) {
                same("p10 " + s + " " + t, x.shows(s, t), want[s][t]);
            }
        }
        same("p10 empty", x.shows(3, 0), -1);
        same("p10 no seat", x.shows(24, 0), -1);
        same("p10 no seat below", x.shows(-1, 0), -1);
        same("p10 no second", x.shows(0, 4), -1);
        same("p10 no second below", x.shows(0, -1), -1);
        for (int n : FAR) {
            same("p10 far", x.shows(n, 0), -1);
            same("p10 far second", x.shows(0, n), -1);
        }
        x.paid(0, 1);
        same("p10 paid shows the plan", x.shows(0, 0), 0);
        same("p10 and nobody follows", x.shows(1, 1), 0);
        x.plan(1, 0, 1);
        same("p10 told anew", x.shows(1, 1), 1);
    }

    private static void p11And12Loud() {
        PaidHouse x = people(3, 4, "c(t=0&s=0);c(n>0);h(l=1)");
        int[][] want = {{1, 0}, {1, 1}, {2, 1}, {1, 2}};
        for (int t = 0; t < 4; t++) {
            same("p11 claps " + t, x.loud(t, 0), want[t][0]);
            same("p11 hisses " + t, x.loud(t, 1), want[t][1]);
        }
        same("p11 other", x.loud(0, 2), -1);
        same("p11 other below", x.loud(0, -1), -1);
        same("p11 no second", x.loud(4, 0), -1);
        same("p11 no second below", x.loud(-1, 1), -1);
        for (int n : FAR) {
            same("p11 far", x.loud(n, 0), -1);
            same("p11 far what", x.loud(0, n), -1);
        }
        same("p12 house", x.house(), 1);
        x.seconds(3);
        same("p12 shorter", x.house(), 2);
        x.seat(1, -1, 0);
        same("p12 alone", x.house(), 0);
        PaidHouse y = people(24, 40, "h(1=1)");
        same("p12 all hiss", y.house(), -960);
    }

    private static void p13And14Costs() {
        PaidHouse x = people(5, 3, "");
        same("p13 no such", x.prices(-1, 0), false);
        same("p13 no such", x.prices(0, -1), false);
        same("p13 no such", x.prices(101, 0), false);
        same("p13 no such", x.prices(0, 101), false);
        for (int n : FAR) {
            same("p13 far", x.prices(n, 1), false);
            same("p13 far", x.prices(1, n), false);
            same("p14 far", x.costs(n), -1);
        }
        same("p13 stays", x.count(5) + x.count(6), 2);
        same("p14 nobody", x.costs(1), 0);
        for (int s = 0; s < 3; s++) {
            x.paid(s, 1);
        }
        x.paid(4, 2);
        x.plan(1, 0, 1);
        x.plan(1, 1, 2);
        x.plan(1, 2, 1);
        x.plan(1, 3, 2);
        x.plan(2, 2, 2);
        same("p14 1", x.costs(1), 9);
        same("p14 2", x.costs(2), 1);
        same("p13 edges", x.prices(100, 0), true);
        same("p14 claps", x.costs(1), 600);
        same("p13 edges", x.prices(0, 100), true);
        same("p14 hisses", x.costs(1), 300);
        same("p13 said", x.prices(7, 10), true);
        same("p13 count", x.count(5), 7);
        same("p13 count", x.count(6), 10);
        same("p14 both", x.costs(1), 72);
        x.seconds(4);
        same("p14 longer", x.costs(1), 102);
        same("p14 0", x.costs(0), -1);
        same("p14 3", x.costs(3), -1);
    }

    private static void p15More() {
        PaidHouse x = people(4, 3, "c(n>0)");
        x.paid(0, 1);
        x.plan(1, 0, 1);
        same("p15 what they start", x.house(), 3);
        same("p15 1", x.more(1), 3);
        same("p15 2", x.more(2), 0);
        x.paid(3, 2);
        x.plan(2, 0, 2);
        x.plan(2, 1, 2);
        same("p15 both", x.house(), 1);
        same("p15 1 beside 2", x.more(1), 3);
        same("p15 2 beside 1", x.more(2), -2);
        same("p15 0", x.more(0), -1000000);
        same("p15 3", x.more(3), -1000000);
        for (int n : FAR) {
            same("p15 far", x.more(n), -1000000);
        }
        same("p15 nothing changes", x.house(), 1);
        same("p15 nothing changes", x.count(50), 1);
        PaidHouse y = people(2, 1, "h(q>0)");
        y.paid(0, 1);
        same("p15 who sees the stick sees it no more", y.more(1), -1);
    }

    private static void p16Wins() {
        PaidHouse x = people(5, 2, "c(s<3);h(1=1)");
        same("p16 no plans", x.wins(), 0);
        x.plan(1, 0, 1);
        same("p16 only the last second", x.wins(), 0);
        x.plan(1, 1, 1);
        same("p16 1", x.wins(), 1);
        x.plan(2, 1, 2);
        same("p16 three and two", x.wins(), 1);
        x.paid(0, 2);
        same("p16 two and two", x.wins(), 0);
        x.paid(1, 1);
        same("p16 the paid do not count", x.wins(), 2);
        x.plan(1, 1, 2);
        same("p16 the same plan", x.wins(), 0);
        x.plan(1, 1, 0);
        Checks.law(x, 0, "h(s=4)");
        same("p16 0 has none with it", x.wins(), 2);
        x.plan(2, 1, 0);
        same("p16 both 0", x.wins(), 0);
        same("p16 nobody", new PaidHouse().wins(), 0);
    }

    private static void p17Seated() {
        PaidHouse x = people(5, 2, "c(n>0)");
        x.plan(1, 0, 1);
        same("p17 one: who has two beside him", x.seated(1, 1, 0), bits(1));
        same("p17 one: the house", x.seated(1, 1, 1), 3);
        same("p17 two", x.seated(1, 2, 0), bits(0, 3));
        same("p17 two: the house", x.seated(1, 2, 1), 5);
        same("p17 three", x.seated(1, 3, 0), bits(0, 1, 3));
        same("p17 three: the house", x.seated(1, 3, 1), 5);
        x.paid(1, 2);
        same("p17 not the other's", x.seated(1, 1, 0), bits(3));
        same("p17 the other's as they are", x.seated(2, 1, 0), bits(0));
        x.paid(0, 1);
        same("p17 those of the stick are free", x.seated(1, 1, 0), bits(3));
        same("p17 nothing changes", x.count(50), 1);
        x.plan(1, 1, 2);
        same("p17 as many: greatest", x.seated(1, 1, 1), 2);
        x.plan(1, 0, 2);
        same("p17 least", x.seated(1, 1, 1), -2);
        same("p17 least: the least set", x.seated(1, 1, 0), bits(0));
        x.plan(1, 1, 0);
        x.plan(1, 2, 1);
        x.plan(1, 3, 1);
        same("p17 only the evening's seconds count", x.seated(1, 1, 1), -1);
        int[][] no = {{0, 1}, {3, 1}, {1, 0}, {1, 4}, {-1, 1}, {1, -1}};
        for (int[] a : no) {
            same("p17 no such", x.seated(a[0], a[1], 0), -1);
            same("p17 no such house", x.seated(a[0], a[1], 1), -1000000);
        }
        for (int n : FAR) {
            same("p17 far", x.seated(n, 1, 0), -1);
            same("p17 far n", x.seated(1, n, 0), -1);
            same("p17 far what", x.seated(1, 1, n), -1);
        }
        same("p17 other", x.seated(1, 1, 2), -1);
        same("p17 other below", x.seated(1, 1, -1), -1);
        PaidHouse y = people(3, 1, "");
        y.paid(2, 2);
        same("p17 two are there", y.seated(1, 2, 0), bits(0, 1));
        same("p17 three are not", y.seated(1, 3, 0), -1);
        same("p17 three are not: house", y.seated(1, 3, 1), -1000000);
        PaidHouse hiss = people(5, 2, "h(z>0)");
        hiss.plan(1, 0, 2);
        same("p17 least: who has two beside him", hiss.seated(1, 1, 0), bits(1));
        same("p17 least: the house", hiss.seated(1, 1, 1), -3);
        same("p17 least: another what", hiss.seated(1, 1, 2), -1);
        hiss.plan(1, 1, 1);
        same("p17 as many: greatest, not least", hiss.seated(1, 1, 0), bits(0));
        hiss.plan(1, 1, 2);
        hiss.plan(2, 0, 1);
        same("p17 the plan of the stick, not of the other", hiss.seated(1, 1, 1), -4);
        same("p17 nobody", new PaidHouse().seated(1, 1, 0), -1);
        PaidHouse z = people(0, 1, "");
        z.seat(22, 0, 0);
        z.seat(23, 0, 0);
        z.seat(9, 0, 0);
        same("p17 the last seats", z.seated(2, 3, 0), bits(9, 22, 23));
        same("p17 the least of like ones", z.seated(2, 2, 0), bits(9, 22));
    }

    private static void p18Begins() {
        same("p18 nobody", new PaidHouse().begins(), -1);
        same("p18 none is needed", people(5, 1, "c(1=1)").begins(), 0);
        PaidHouse x = people(5, 3, "c(n>0|l=1)");
        same("p18 who reaches all in two steps", x.begins(), bits(2));
        x.seconds(2);
        same("p18 two", x.begins(), bits(0, 3));
        x.seconds(1);
        same("p18 five would be needed", x.begins(), -2);
        x.seat(0, -1, 0);
        x.seat(2, -1, 0);
        same("p18 three", x.begins(), bits(1, 3, 4));
        x.paid(1, 1);
        x.plan(1, 0, 2);
        same("p18 nobody is paid", x.begins(), bits(1, 3, 4));
        same("p18 nothing changes", x.count(51), 1);
        PaidHouse y = people(3, 2, "h(t=0);c(n>0&z=0)");
        same("p18 whatever they would", y.begins(), bits(0, 1, 2));
        y.seat(3, 0, 0);
        same("p18 a fourth would be needed", y.begins(), -2);
        PaidHouse z = people(2, 2, "c(q=0&t>0)");
        z.paid(0, 1);
        same("p18 no stick is seen", z.begins(), 0);
        PaidHouse all = people(24, 1, "c(s<21)");
        same("p18 the last three", all.begins(), bits(21, 22, 23));
    }

    private static void p19Silent() {
        PaidHouse x = people(4, 2, "c(s=0&t=0);h(s=1&t=1)");
        x.seat(1, 0, 1);
        x.seat(2, 0, 1);
        x.paid(2, 1);
        x.plan(1, 0, 1);
        same("p19 the house as it is", x.house(), 1);
        same("p19 house", x.silent(0), 0);
        same("p19 who show anything", x.silent(1), 2);
        same("p19 who know", x.silent(2), 1);
        x.paid(0, 1);
        x.plan(1, 0, 2);
        same("p19 nobody is paid", x.silent(0), 0);
        same("p19 nothing changes", x.house(), -3);
        same("p19 3", x.silent(3), -1000000);
        same("p19 -1", x.silent(-1), -1000000);
        for (int n : FAR) {
            same("p19 far", x.silent(n), -1000000);
        }
        x.seconds(1);
        same("p19 a shorter evening", x.silent(1), 1);
        PaidHouse y = people(2, 1, "c(q>0)");
        y.paid(0, 1);
        same("p19 no stick is seen", y.silent(1), 0);
    }

    private static void p20And21Rests() {
        PaidHouse x = new PaidHouse();
        int[][] no = {{-1, 0, 0, 0}, {2, 0, 0, 0}, {0, -1, 0, 0}, {0, 5, 0, 0}, {0, 0, -1, 0}, {0, 0, 5, 0},
            {0, 0, 0, -1001}, {0, 0, 0, 1001}};
        for (int[] a : no) {
            same("p20 no such", x.table(a[0], a[1], a[2], a[3]), false);
        }
        for (int n : FAR) {
            same("p20 far", x.table(n, 0, 0, 0), false);
            same("p20 far a", x.table(0, n, 0, 0), false);
            same("p20 far b", x.table(0, 0, n, 0), false);
            same("p21 far m", x.rests(n, -1), -1);
        }
        same("p21 untouched", x.rests(2, -1), 4);
        same("p21 by a, then b", x.rests(2, 1), 1);
        same("p21 by a, then b", x.rests(2, 2), 5);
        same("p20 least", x.table(0, 4, 4, -1000), true);
        same("p20 greatest", x.table(1, 4, 4, 1000), true);
        same("p21 one less", x.rests(5, -1), 20);
        same("p21 not with 4", x.rests(4, -1), 16);
        same("p21 row 4 has gone", x.rests(5, 20), -1);
        same("p21 the last one", x.rests(5, 19), 19);
        x.table(0, 1, 0, 3);
        x.table(1, 0, 1, 2);
        same("p21 three", x.rests(2, -1), 3);
        same("p21 (0, 1)", x.rests(2, 0), 1);
        same("p21 (1, 0)", x.rests(2, 1), 5);
        same("p21 (1, 1)", x.rests(2, 2), 6);
        same("p21 no fourth", x.rests(2, 3), -1);
        same("p21 -2", x.rests(2, -2), -1);
        same("p21 1", x.rests(1, -1), -1);
        same("p21 6", x.rests(6, -1), -1);
        PaidHouse y = new PaidHouse();
        y.table(0, 0, 0, 1);
        y.table(1, 0, 1, 1);
        y.table(0, 1, 1, 1);
        y.table(1, 1, 0, 1);
        same("p21 none", y.rests(2, -1), 0);
        same("p21 none at 0", y.rests(2, 0), -1);
    }

    private static void p22And23Kept() {
        PaidHouse x = people(3, 2, "c(s<g)");
        same("p23 none", x.hears(0) + x.hears(1), 0);
        same("p22 1", x.keep(), 1);
        x.good(0, 10, 1);
        same("p22 2", x.keep(), 2);
        same("p23 one way", x.hears(0), 1);
        same("p23 not", x.hears(1), 0);
        x.good(0, 5, 2);
        x.good(2, 100, 0);
        same("p22 3", x.keep(), 3);
        same("p23 one way", x.hears(0), 2);
        same("p23 not: only seconds of the evening", x.hears(1), 1);
        x.good(0, 50, 2);
        x.keep();
        same("p23 the house does not differ from one", x.hears(0), 4);
        same("p23 not", x.hears(1), 1);
        same("p23 2", x.hears(2), -1);
        same("p23 -1", x.hears(-1), -1);
        for (int n : FAR) {
            same("p23 far", x.hears(n), -1);
        }
        for (int i = 5; i <= 20; i++) {
            same("p22 " + i, x.keep(), i);
        }
        same("p22 20 are there", x.keep(), -1);
        same("p22 count", x.count(4), 20);
    }

    private static void p24And25Suspects() {
        PaidHouse x = people(4, 3, "c(n>0)");
        x.paid(0, 1);
        x.plan(1, 0, 1);
        x.plan(1, 1, 1);
        same("p24 nothing kept", x.otherwise(0), 0);
        x.keep();
        same("p24 clapped twice by himself, then not with the one beside him", x.otherwise(0), 3);
        same("p24 by the law", x.otherwise(1), 0);
        same("p24 empty", x.otherwise(4), -1);
        same("p24 no seat", x.otherwise(24), -1);
        same("p24 no seat below", x.otherwise(-1), -1);
        same("p25 1", x.suspects(1), bits(0));
        same("p25 3", x.suspects(3), bits(0));
        same("p25 4", x.suspects(4), 0);
        x.paid(0, 0);
        x.keep();
        same("p24 an honest evening adds nothing", x.otherwise(0), 3);
        Checks.law(x, 0, "h(1=1)");
        same("p24 the law as now", x.otherwise(3), 6);
        same("p25 all", x.suspects(6), bits(0, 1, 2, 3));
        x.seat(0, 1, 0);
        same("p24 the sort as kept", x.otherwise(0), 6);
        x.seat(3, -1, 0);
        same("p24 empty now", x.otherwise(3), -1);
        same("p25 empty now", x.suspects(1), bits(0, 1, 2));
        x.seat(9, 0, 0);
        same("p24 empty then", x.otherwise(9), 0);
        same("p25 0", x.suspects(0), -1);
        same("p25 800", x.suspects(800), 0);
        same("p25 801", x.suspects(801), -1);
        for (int n : FAR) {
            same("p24 far", x.otherwise(n), -1);
            if (n != 256) {
                same("p25 far", x.suspects(n), -1);
            }
        }
        PaidHouse y = people(24, 40, "");
        for (int i = 0; i < 20; i++) {
            y.keep();
        }
        Checks.law(y, 0, "c(p=24)");
        same("p25 all of them, always", y.suspects(800), (1 << 24) - 1);
    }

    /** All letters as they were kept, whatever has been told since. */
    private static void p24AsKept() {
        PaidHouse x = people(3, 2, "c(s=1&t=0)");
        x.rows(6);
        x.good(1, 9, 8);
        x.seat(2, 0, 1);
        x.paid(1, 2);
        x.plan(2, 0, 1);
        x.keep();
        x.seat(5, 0, 0);
        x.seat(2, 0, 0);
        x.seat(1, 1, 0);
        x.paid(1, 0);
        x.plan(2, 0, 2);
        x.good(1, 1, 1);
        x.seconds(1);
        Checks.law(x, 0, "c(t=1&p=3&q=1&k=1&g=9&n=1&a=1&z=0&b=0&l=0&w=0&s=2)");
        same("p24 letters of seat 2", x.otherwise(2), 1);
        Checks.law(x, 0, "c(t=1&p=3&q=1&k=0&g=8&n=1&a=1&s=0)");
        same("p24 letters of seat 0", x.otherwise(0), 1);
        Checks.law(x, 0, "c(t=1&l=1&q=0&a=1)");
        same("p24 letters of seat 1", x.otherwise(1), 2);
        for (int s = 0; s < 24; s++) {
            x.seat(s, -1, 0);
        }
        x.rows(4);
        x.seat(6, 0, 0);
        x.seat(2, 0, 0);
        Checks.law(x, 0, "c(t=0&w=0)");
        same("p24 the rows as they were", x.otherwise(2), 1);
    }

    private static void p24Hisses() {
        PaidHouse x = people(3, 3, "h(t=0&s=1);h(t=1&s=2)");
        x.keep();
        Checks.law(x, 0, "c(t=1&z=1&b=1&l=0&n=0)");
        same("p24 one beside him had hissed", x.otherwise(0), 1);
        Checks.law(x, 0, "c(t=2&z=0&b=1);c(t=1&z>1)");
        same("p24 only the second before counts", x.otherwise(0), 1);
        Checks.law(x, 0, "c(t=1&l=2);c(t=2&l=0&z=1)");
        same("p24 he had hissed himself", x.otherwise(1), 3);
        Checks.law(x, 0, "c(t=0&b>0)");
        same("p24 nothing ahead of the first", x.otherwise(0), 0);
    }

    private static void p26Funnier() {
        PaidHouse x = new PaidHouse();
        int[][] no = {{0, 0, 0, 0, 0}, {21, 0, 0, 0, 0}, {5, -1, 0, 0, 0}, {5, 6, 0, 0, 0}, {5, 2, -1, 0, 0},
            {5, 2, 3, 0, 0}, {5, 2, 0, -1, 0}, {5, 2, 0, 4, 0}, {5, 2, 1, 1, 2}, {5, 2, 1, 1, -1}};
        for (int[] a : no) {
            same("p26 no such", x.funnier(a[0], a[1], a[2], a[3], a[4]), -1);
        }
        for (int n : FAR) {
            same("p26 far", x.funnier(n, 1, 0, 0, 0), -1);
            same("p26 far m", x.funnier(5, n, 0, 0, 0), -1);
            same("p26 far k", x.funnier(5, 2, n, 0, 0), -1);
            same("p26 far j", x.funnier(5, 2, 0, n, 0), -1);
            same("p26 far what", x.funnier(5, 2, 0, 0, n), -1);
        }
        long[][] want = {{1, 0, 0, 0, 1, 1}, {1, 1, 1, 0, 1, 1}, {8, 4, 3, 1, 17, 70}, {8, 4, 4, 0, 1, 70},
            {20, 10, 10, 0, 1, 184756}, {20, 10, 5, 5, 62065, 92378}, {20, 10, 0, 10, 1, 1}, {6, 3, 2, 0, 1, 5},
            {6, 3, 2, 1, 1, 2}, {20, 0, 0, 20, 1, 1}, {20, 20, 20, 0, 1, 1}};
        for (long[] w : want) {
            String what = "p26 " + java.util.Arrays.toString(w);
            same(what, x.funnier((int) w[0], (int) w[1], (int) w[2], (int) w[3], 0), w[4]);
            same(what, x.funnier((int) w[0], (int) w[1], (int) w[2], (int) w[3], 1), w[5]);
        }
    }

    private static void p27Years() {
        PaidHouse x = people(2, 1, "");
        int[][] no = {{-1, 0, 1, 0}, {10001, 0, 1, 0}, {0, -1, 1, 0}, {0, 10001, 1, 0}, {0, 0, 0, 0}, {0, 0, 51, 0},
            {0, 0, 1, -1}, {0, 0, 1, 1001}};
        for (int[] a : no) {
            same("p27 no such", x.years(a[0], a[1], a[2], a[3]), -1);
        }
        for (int n : FAR) {
            same("p27 far years", x.years(1, 1, n, 1), -1);
            if (n != 256) {
                same("p27 far", x.years(n, 1, 1, 1), -1);
                same("p27 far second", x.years(1, n, 1, 1), -1);
                same("p27 far thousandths", x.years(1, 1, 1, n), -1);
            }
        }
        same("p27 as loud", x.years(77, 500, 50, 1000), 77);
        x.paid(0, 1);
        x.paid(1, 2);
        x.plan(1, 0, 1);
        same("p27 the first", x.years(100, 99, 1, 500), 149);
        same("p27 three years", x.years(0, 10000, 3, 500), 8750);
        same("p27 rounded down", x.years(0, 10000, 50, 1), 451);
        same("p27 all", x.years(10000, 10000, 50, 1000), 20000);
        same("p27 nothing", x.years(5, 6, 50, 0), 5);
        x.plan(1, 0, 2);
        same("p27 the second", x.years(99, 0, 1, 500), 50);
        x.plan(2, 0, 2);
        same("p27 as loud again", x.years(99, 0, 1, 500), 99);
        x.plan(2, 0, 1);
        x.plan(1, 0, 1);
        same("p27 as loud, both clap", x.years(99, 0, 1, 500), 99);
    }

    private static void p28Check() {
        PaidHouse x = people(3, 2, "c(s>t);h(1=1)");
        same("p28 nothing told", x.check(1), -2);
        Checks.numbers(x, 0, 2, 1, 1, 1, 2);
        same("p28 too many", x.check(4), -2);
        same("p28 below 0", x.check(-1), -2);
        for (int n : FAR) {
            same("p28 far", x.check(n), -2);
        }
        same("p28 2^30", x.check(1 << 30), -2);
        same("p28 the tape stays", x.count(3), 40);
        same("p28 right", x.check(2), -1);
        same("p28 the tape is empty", x.count(3), 0);
        int[] right = {0, 2, 1, 1, 1, 2};
        for (int i = 0; i < 6; i++) {
            int[] told = right.clone();
            told[i] += i % 2 == 0 ? 256 : -1;
            Checks.numbers(x, told);
            same("p28 wrong at " + i, x.check(2), i);
            same("p28 the tape is empty", x.count(3), 0);
        }
        Checks.numbers(x, right);
        same("p28 a second is lacking", x.check(1), 3);
        Checks.numbers(x, right);
        same("p28 all are lacking", x.check(0), 0);
        same("p28 the tape is empty behind 0", x.count(3), 0);
        Checks.numbers(x, 0, 2, 1, 1, 1, 2, 2, 0, 0);
        same("p28 one too many", x.check(3), 6);
        Checks.numbers(x, 0, 2, 1, 0, 2, 1);
        same("p28 a second twice", x.check(2), 3);
        Checks.numbers(x, 0, 0x02000000, 1, 1, 1, 2);
        same("p28 the highest byte first", x.check(2), 1);
        x.seconds(40);
        int[] all = new int[120];
        for (int t = 0; t < 40; t++) {
            all[3 * t] = t;
            all[3 * t + 1] = Math.max(0, 2 - t);
            all[3 * t + 2] = 3 - Math.max(0, 2 - t);
        }
        Checks.numbers(x, all);
        same("p28 480 bytes", x.count(3), 480);
        same("p28 forty seconds", x.check(40), -1);
    }

    private static void p29Count() {
        PaidHouse x = new PaidHouse();
        for (int what : new int[] {-1, 7, 8, 9, 14, 19, 44, 49, 74, 75, 1000, Integer.MIN_VALUE, Integer.MAX_VALUE}) {
            same("p29 other " + what, x.count(what), -1);
        }
        x.rows(7);
        x.seat(0, 2, 0);
        x.seat(23, 3, 1);
        x.paid(23, 1);
        x.seconds(9);
        x.prices(3, 4);
        Checks.law(x, 1, "c(1=1);h(1=1);c(1=1)");
        x.feed(0, 0, 0, 0, 0);
        x.keep();
        int[][] want = {{0, 7}, {1, 2}, {2, 9}, {3, 20}, {4, 1}, {5, 3}, {6, 4}, {10, 0}, {11, 3}, {12, 0}, {13, 0},
            {20, 2}, {21, -1}, {43, 3}, {50, 0}, {51, -1}, {73, 1}};
        for (int[] w : want) {
            same("p29 " + w[0], x.count(w[0]), w[1]);
        }
    }

    public static void main(String[] args) {
        same("NONE", PaidHouse.NONE, -1);
        p1NewObject();
        p2Rows();
        p2Neighbours();
        p3Seat();
        p4Paid();
        p5Seconds();
        p6Good();
        p7Plan();
        p8Feed();
        p9Law();
        p10Shows();
        p11And12Loud();
        p13And14Costs();
        p15More();
        p16Wins();
        p17Seated();
        p18Begins();
        p19Silent();
        p20And21Rests();
        p22And23Kept();
        p24And25Suspects();
        p24AsKept();
        p24Hisses();
        p26Funnier();
        p27Years();
        p28Check();
        p29Count();
        Checks.end("PromiseTest");
    }
}
