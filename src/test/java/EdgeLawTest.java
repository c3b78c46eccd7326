/**
 * The sentences of the document that name an edge of the tape and of THE LAW: Terms, part 2, promises 8 and 9. Each
 * test stands under the words that it holds the class to.
 */
public final class EdgeLawTest {
    private static final String FACTOR = "[0123456789gnzabpltswqk";
    private static final String PIECE = "(!" + FACTOR;
    private static final String DIGITS = "0123456789";
    private static final String JOIN = "+-*/%";
    /** The greatest number of 32 bits; one more is the least. */
    private static final String MAX = "[32768*65535+32767]";
    private static final String MIN = "[32768*65536]";

    private static void same(String what, long got, long want) {
        Checks.same(what, got, want);
    }

    private static void reads(String text, int want) {
        same("law " + text, Checks.law(new PaidHouse(), 2, text), want);
    }

    private static String times(int n, String part) {
        return part.repeat(n);
    }

    // ---- the tape ----

    /** "Twenty bytes come behind the tape ..: how many it has; NONE if that would be more than 500." */
    private static void fiveHundredBytes() {
        PaidHouse x = new PaidHouse();
        for (int round = 0; round < 2; round++) {
            same("an empty tape", x.count(3), 0);
            for (int i = 1; i <= 25; i++) {
                same("feed " + i, x.feed(i, i, i, i, i), 20 * i);
                same("told " + i, x.count(3), 20 * i);
            }
            for (int i = 0; i < 3; i++) {
                same("a full tape", x.feed(-1, -1, -1, -1, -1), -1);
                same("stays", x.count(3), 500);
            }
            same("emptied", round == 0 ? x.law(0, 1) : x.check(0), round == 0 ? -1000 : 0);
        }
        same("empty again", x.count(3), 0);
        same("from the beginning", x.feed(0, 0, 0, 0, 0), 20);
    }

    /** "the highest of each int first", whatever the bytes; what is fed comes behind what is there. */
    private static void highestFirst() {
        String text = "c(t<2);h(!t=2&[t]>2)";
        PaidHouse x = new PaidHouse();
        x.seat(0, 1, 0);
        x.seconds(4);
        x.feed('c' << 24 | '(' << 16 | 't' << 8 | '<', '2' << 24 | ')' << 16 | ';' << 8 | 'h',
                '(' << 24 | '!' << 16 | 't' << 8 | '=', '2' << 24 | '&' << 16 | '[' << 8 | 't',
                ']' << 24 | '>' << 16 | '2' << 8 | ')');
        same("the twenty bytes of " + text, x.law(1, 20), 2);
        same("its first clause", x.shows(0, 1), 1);
        same("its second clause", x.shows(0, 2), 0);
        same("its second clause", x.shows(0, 3), 2);
        PaidHouse y = new PaidHouse();
        y.feed('c' << 24 | '(' << 16 | '1' << 8 | '=', '1' << 24 | ')' << 16 | ';' << 8, 0, 0, 0);
        y.feed('h' << 24, 0, 0, 0, 0);
        same("twenty bytes each", y.law(0, 21), -1007);
        int[] wide = {0x80000000, 0x00000080, -1, 0x7fffffff, 0xff00ff00};
        for (int number : wide) {
            PaidHouse z = new PaidHouse();
            z.feed(0, 0, number, 0, 0);
            same("a number of four bytes", z.check(1), 2);
            z.feed(number, 0, 0, 0, 0);
            same("a number of four bytes", z.check(1), 0);
        }
    }

    /** "by the first n bytes of the tape (1 to 120; empty then)"; "NONE: .. it has not so many (the tape stays)" */
    private static void firstBytesOfTheTape() {
        PaidHouse x = new PaidHouse();
        Checks.span("law of a full tape", 1, 120, n -> {
            PaidHouse y = new PaidHouse();
            Checks.feed(y, times(50, "c(1=1);h(1"));
            long got = y.law(0, n);
            same("the tape behind law " + n, y.count(3), got == -1 ? 500 : 0);
            return got;
        }, -1);
        Checks.span("sort", 0, 3, sort -> {
            Checks.feed(x, "c(1=1)");
            return x.law(sort, 6);
        }, -1);
        for (int sort = 0; sort < 4; sort++) {
            same("clauses", x.count(10 + sort), sort == 0 || sort == 3 ? 1 : 0);
        }
        for (int size = 20; size <= 120; size += 20) {
            PaidHouse y = new PaidHouse();
            Checks.feed(y, times(size / 20, "c(1=1)|x;y<>=[]()~~ "));
            same("one byte more than there are", y.law(0, size + 1), -1);
            same("the tape stays", y.count(3), size);
            same("no byte", y.law(0, 0), -1);
            same("the tape stays", y.count(3), size);
            same("all bytes", y.law(0, size), -1006);
            same("the tape is empty", y.count(3), 0);
            same("not even one", y.law(0, 1), -1);
        }
        Checks.feed(x, "c(1=1);h(1=2);h(((((");
        same("what is behind them does not matter", x.law(2, 13), 2);
        same("all of the tape is gone", x.count(3), 0);
    }

    // ---- how long a text is ----

    /** "a TEXT of at most 120 bytes": all of them count. */
    private static void hundredAndTwentyBytes() {
        PaidHouse x = new PaidHouse();
        x.seat(0, 0, 0);
        String text = "c(1=0" + times(56, "+0") + "+1)";
        same("120 bytes", text.length(), 120);
        same("120 bytes stand", Checks.law(x, 0, text), 1);
        same("the last of them counts", x.shows(0, 0), 1);
        text = "c(1=0" + times(56, "+0") + "+2)";
        same("120 bytes stand", Checks.law(x, 0, text), 1);
        same("the last of them counts", x.shows(0, 0), 0);
        Checks.feed(x, text + "c");
        same("121 bytes", x.law(0, 121), -1);
        same("one byte", x.law(0, 1), -1001);
        same("the text before stays", x.count(10), 1);
    }

    /** Each FAULT at the last place of 120 bytes, and the end behind it. */
    private static void theLastPlace() {
        String sum = "c(1>0" + times(57, "+0");
        reads(sum + ")", 1);
        reads(sum + "x", -1119);
        reads(sum + " ", -1119);
        reads(sum + "+", -1120);
        reads(sum + "1", -1120);
        reads("c(1=" + times(55, "0+") + "123456", -2119);
        reads("c(" + times(28, "1=1&") + "((((((", -5119);
        reads("c(" + times(28, "1=1&") + "!!!!!!", -5119);
        reads("c(" + times(28, "1=1&") + "[[[[[[", -5119);
        reads("c(" + times(28, "1=1&") + "(((((x", -1119);
        String twelve = "c(11=1" + times(17, "+0") + ")" + times(11, ";h(1=1)");
        reads(twelve + ";", -1119);
        reads(twelve + ";c", -4119);
        reads(twelve + ";h", -4119);
        reads(twelve + ";;", -1119);
        reads(twelve, 12);
    }

    // ---- what can stand ----

    /** All 256 bytes behind a beginning: those that can stand there, all others FAULT 1 at that place; the end, too. */
    private static void behind(String before, String may, boolean closing) {
        int place = before.length();
        for (int b = 0; b < 256; b++) {
            int want = -1000 - place;
            if (may.indexOf(b) >= 0) {
                want = b == ')' && closing ? 1 : -1000 - place - 1;
            }
            reads(before + (char) b, want);
        }
        if (place > 0) {
            reads(before, before.equals("c(n<n)") ? 1 : -1000 - place);
        }
    }

    /** "1 what can't stand there (the end, too)", "no blanks" */
    private static void whatCanStand() {
        behind("", "ch", false);
        behind("c", "(", false);
        behind("h", "(", false);
        behind("c(", PIECE, false);
        behind("c(!", PIECE, false);
        behind("c((", PIECE, false);
        behind("c([", FACTOR, false);
        behind("c(n", JOIN + "<>=", false);
        behind("c(7", DIGITS + JOIN + "<>=", false);
        behind("c([n]", JOIN + "<>=", false);
        behind("c([n", JOIN + "]", false);
        behind("c([7", DIGITS + JOIN + "]", false);
        behind("c([[n]", JOIN + "]", false);
        for (String sign : new String[] {"+", "-", "*", "/", "%", "<", ">", "="}) {
            behind("c(n" + sign, FACTOR, false);
        }
        behind("c(n<n", JOIN + "&|)", true);
        behind("c(n<7", DIGITS + JOIN + "&|)", true);
        behind("c(n<[n", JOIN + "]", false);
        behind("c(n<[n]", JOIN + "&|)", true);
        behind("c(n<n&", PIECE, false);
        behind("c(n<n|", PIECE, false);
        behind("c(n<n&n", JOIN + "<>=", false);
        behind("c((n<n", JOIN + "&|)", false);
        behind("c((n<n)", "&|)", true);
        behind("c(!n<n", JOIN + "&|)", true);
        behind("c(!(n<n)", "&|)", true);
        behind("c((!n<n", JOIN + "&|)", false);
        behind("c(n<n)", ";", false);
        behind("c(n<n);", "ch", false);
    }

    // ---- numbers, clauses, what is open ----

    /** "a number of one to five digits", "2 a sixth digit, at it" */
    private static void digits() {
        holds("9+1=10&99+1=100&999+1=1000&9999+1=10000&99999+1=10*10000", true);
        holds("0=00000&00001=1&00000<1", true);
        for (int n = 1; n <= 5; n++) {
            reads("c(" + times(n, "9") + "=1)", 1);
            reads("c(1=" + times(n, "0") + ")", 1);
        }
        for (int n = 6; n <= 9; n++) {
            reads("c(" + times(n, "9") + "=1)", -2007);
            reads("c(1=" + times(n, "0") + ")", -2009);
            reads("c(1=[" + times(n, "0") + "])", -2010);
            reads("c(1=1+" + times(n, "1") + ")", -2011);
        }
        for (int digit = 0; digit < 10; digit++) {
            reads("c(12345" + digit, -2007);
        }
    }

    /** "CLAUSES (12 at most) with a ; (59) between two", "4 a 13th CLAUSE, at its letter (if that can stand there)" */
    private static void clauses() {
        String text = "c(1=1)";
        for (int n = 1; n <= 12; n++) {
            reads(text, n);
            reads(text + ";", -1000 - text.length() - 1);
            text += n % 2 == 0 ? ";c(1=1)" : ";h(1=1)";
        }
        String twelve = text.substring(0, 83);
        reads(text, -4084);
        for (int b = 0; b < 256; b++) {
            reads(twelve + ";" + (char) b, b == 'c' || b == 'h' ? -4084 : -1084);
        }
        reads(twelve + ";c(1=1);c(1=1)", -4084);
        reads("c(1=1)" + (char) 59 + "c(1=1)", 2);
    }

    /** "of the first one whose C holds: CLAP, HISS; none: nothing." With all twelve, and when they are gone. */
    private static void twelveClausesAsked() {
        PaidHouse x = new PaidHouse();
        x.seat(23, 3, 0);
        x.seconds(14);
        String text = "";
        for (int i = 0; i < 12; i++) {
            text += (i == 0 ? "" : ";") + (i % 3 == 0 ? "h" : "c") + "(t=" + i + ")";
        }
        same("twelve", Checks.law(x, 3, text), 12);
        for (int t = 0; t < 14; t++) {
            same("clause " + t, x.shows(23, t), t > 11 ? 0 : t % 3 == 0 ? 2 : 1);
        }
        same("in place of the one before", Checks.law(x, 3, "h(t=1);c(t<3)"), 2);
        int[] want = {1, 2, 1, 0, 0, 0, 0};
        for (int t = 0; t < want.length; t++) {
            same("two clauses alone " + t, x.shows(23, t), want[t]);
        }
        same("clauses told", x.count(13), 2);
    }

    private static String closing(String opened) {
        String text = "";
        for (int i = opened.length() - 1; i >= 0; i--) {
            char c = opened.charAt(i);
            if (i == opened.length() - 1) {
                text += c == '[' ? "1" : "1=1";
            }
            text += c == '(' ? ")" : c == '[' ? "]" : "";
            if (c == '[' && (i == 0 || opened.charAt(i - 1) != '[')) {
                text += "=1";
            }
        }
        return text + ")";
    }

    /** "5 a seventh of ( [ ! that are open in one another, at it (the ( of the CLAUSE counts ..)": all ways to six. */
    private static void sevenOpen(String opened) {
        if (opened.length() < 5) {
            for (String sign : opened.endsWith("[") ? new String[] {"["} : new String[] {"(", "[", "!"}) {
                sevenOpen(opened + sign);
            }
            return;
        }
        reads("c(" + opened + closing(opened), 1);
        boolean inSum = opened.endsWith("[");
        reads("c(" + opened + "[", -5007);
        reads("c(" + opened + "(", inSum ? -1007 : -5007);
        reads("c(" + opened + "!", inSum ? -1007 : -5007);
        reads("c(" + opened + ")", -1007);
        reads("c(" + opened + "1(", -1008);
        reads("c(" + opened + "1[", -1008);
        reads("c(" + opened + "1!", -1008);
    }

    /** "(.. a ! is open till its PIECE ends)"; what is closed is open no more. */
    private static void tillItEnds() {
        reads("c(!!!!!1=1&(((((1=1)))))&!!!!!1=1|[[[[[1]]]]]=[[[[[1]]]]])", 1);
        reads("c(!!!!!1=1&((((((1=1))))))", -5016);
        reads("c(!!!!!1=1|!!!!!!1=1)", -5016);
        reads("c(!!!!!1=[1])", -5009);
        reads("c(!!!!!1+1*[1]=1)", -5011);
        reads("c(!!!!(1=1)&!!!!(1=1))", 1);
        reads("c(!!!!([1]=1))", -5007);
        reads("c(!!!(!1=1&[1]=1))", 1);
        reads("c(!!!(!1=[1]))", -5009);
        reads("c(!!(!1=[1]))", 1);
        reads("c(!!!!(1=1&!1=1))", -5011);
        reads("c(!(!(!1=1&!1=1)&!(!1=1)))", 1);
        reads("c(!(!(!1=1&!!1=1)))", -5012);
        reads("c(((((1=1))&((1=1)))))", 1);
        reads("c((((((1=1)&(1=1))))))", 1);
        reads("c((((((1=1)&((1=1)))))))", -5013);
        reads("c((((((1=1))))));h((((((1=1))))))", 2);
        reads("c((((((1=1))))));h(((((((1=1)))))))", -5024);
    }

    /** "FAULTS, the first from the left" */
    private static void theFirstFromTheLeft() {
        reads("x123456((((((((", -1000);
        reads("c(123456=(((((((", -2007);
        reads("c(1=123456)(((((((", -2009);
        reads("c(((((((123456", -5007);
        reads("c((((((x((", -1007);
        String twelve = "c(1=1)" + times(11, ";c(1=1)");
        reads(twelve + ";c(123456=1)", -4084);
        reads(twelve + ";x(123456=1)", -1084);
        reads("c(1=123456)" + times(12, ";c(1=1)"), -2009);
        reads("c 1=1)" + times(12, ";c(1=1)"), -1001);
    }

    /** "(the TEXT before stays)": behind each FAULT; "in place of the one before" else. */
    private static void theTextBeforeStays() {
        PaidHouse x = new PaidHouse();
        for (int sort = 0; sort < 4; sort++) {
            x.seat(sort, sort, 0);
        }
        String[] wrong = {"h(1=1);", "h(123456=1)", "h(1=1)" + times(12, ";h(1=1)"), "h((((((((1=1", "h", " "};
        for (int sort = 0; sort < 4; sort++) {
            for (String text : wrong) {
                same("a fault, no law yet", Checks.law(x, sort, text) <= -1000, 1);
                same("none still", x.count(10 + sort), 0);
                same("nothing is shown", x.shows(sort, 0), 0);
            }
            same("a law", Checks.law(x, sort, "c(s=" + sort + ");h(1=1)"), 2);
            for (String text : wrong) {
                same("a fault", Checks.law(x, sort, text) <= -1000, 1);
                same("the tape is empty", x.count(3), 0);
                same("its clauses stay", x.count(10 + sort), 2);
                same("its answer stays", x.shows(sort, 0), 1);
            }
        }
    }

    private static void same(String what, boolean got, int want) {
        Checks.same(what, got ? 1 : 0, want);
    }

    // ---- what is reckoned ----

    /** Holds: CLAP; else the next CLAUSE is asked: HISS. */
    private static void holds(String condition, boolean want) {
        PaidHouse x = new PaidHouse();
        x.seat(5, 0, 1);
        same("law " + condition, Checks.law(x, 0, "c(" + condition + ");h(1=1)"), 2);
        same(condition, x.shows(5, 0), want ? 1 : 2);
    }

    /** "All is reckoned with 32 bits, as the machine does" */
    private static void thirtyTwoBits() {
        holds(MAX + ">0", true);
        holds(MIN + "<0", true);
        holds(MAX + "+1=" + MIN, true);
        holds(MIN + "-1=" + MAX, true);
        holds("0-" + MIN + "=" + MIN, true);
        holds("0-" + MAX + "-1=" + MIN, true);
        holds(MIN + "*[0-1]=" + MIN, true);
        holds(MIN + "/[0-1]=" + MIN, true);
        holds(MIN + "%[0-1]=0", true);
        holds(MAX + "*2=0-2", true);
        holds(MIN + "*2=0", true);
        holds(MAX + "*" + MAX + "=1", true);
        holds(MAX + "+" + MAX + "=0-2", true);
        holds(MIN + "+" + MIN + "=0", true);
        holds(MIN + "<" + MAX, true);
        holds(MAX + ">" + MIN, true);
        holds(MIN + ">" + MAX, false);
        holds(MAX + "<" + MIN, false);
        holds(MAX + "=" + MIN, false);
        holds("65536*65536=0", true);
        holds("65536*65535=0-65536", true);
        holds("99999*99999=14098*10000*10+65409", true);
    }

    /** Division goes to 0, and the rest has the sign of what is divided. */
    private static void divisions() {
        holds("7/2=3&[0-7]/2=0-3&7/[0-2]=0-3&[0-7]/[0-2]=3", true);
        holds("7%2=1&[0-7]%2=0-1&7%[0-2]=1&[0-7]%[0-2]=0-1", true);
        holds("6%3=0&0/5=0&0%5=0&5/5=1&4/5=0&4%5=4", true);
        holds(MIN + "/" + MAX + "=0-1&" + MAX + "/" + MIN + "=0", true);
        holds(MIN + "%" + MAX + "=0-1&" + MIN + "/" + MIN + "=1", true);
        holds(MIN + "/1=" + MIN + "&" + MIN + "/2=0-16384*65536", true);
    }

    /** "from the left on" */
    private static void fromTheLeftOn() {
        holds("9-3-2=4&9-3+2=8&2+3-4=1", true);
        holds("60/4/3=5&60/4*3=45&60%7*2=8&60*7%9=6&7*60/9=46&60%7/2=2", true);
        holds("1+2*3=7&2*3+1=7&[1+2]*3=9&9-2*3-1=2", true);
        holds(MAX + "*2/2=0-1", true);
        holds(MAX + "+1-1=" + MAX, true);
    }

    /** "what is divided by 0 is REFUSED: then C does not hold" */
    private static void dividedByZero() {
        for (String zero : new String[] {"0", "00000", "[1-1]", "n", "z", "a", "b", "l", "t", "q", "w", "g",
            "[65536*65536]", "[0/1]", "[1%1]", "[k-1]", "[p-1]", "[s-5]"}) {
            for (String how : new String[] {"1/", "1%", "0/", "0%", MIN + "/"}) {
                holds(how + zero + "=0", false);
                holds("0=" + how + zero, false);
                holds("!" + how + zero + "=0", false);
                holds("!(" + how + zero + "=7)", false);
                holds(how + zero + "=0|1=1", false);
                holds("1=1&" + how + zero + "<1", false);
                holds("0*[" + how + zero + "]=0", false);
            }
        }
        PaidHouse x = new PaidHouse();
        x.seat(5, 0, 1);
        same("ten clauses that are refused", Checks.law(x, 0, times(10, "h(1=1+1/0);") + "c(1=1)"), 11);
        same("the next one is asked", x.shows(5, 0), 1);
        holds("1/[0-1]=0-1", true);
        holds("5/s=1&5%s=0&1/k=1&1/p=1", true);
    }

    /** "Of a C as much is asked, from the left, as matters." */
    private static void asMuchAsMatters() {
        holds("1=1|1/0=0", true);
        holds("1=2|1/0=0", false);
        holds("1=2|1=1|1/0=0", true);
        holds("1=2&1/0=0", false);
        holds("1=2&1/0=0|1=1", true);
        holds("1=1&1/0=0|1=1", false);
        holds("1=2&1/0=0&1/0=0|1=1|1/0=0", true);
        holds("1=1&1=2&1/0=0|1=1", true);
        holds("!(1=2&1/0=0)", true);
        holds("!(1=1|1/0=0)|1=1", true);
        holds("(1=1|1/0=0)&(1=2|1=1)", true);
        holds("(1=2&1/0=0)|(1=1|1/0=0)", true);
        holds("(1=2|1/0=0)|1=1", false);
        holds("!!(1=1|1/0=0)", true);
        holds("1=1|1=1&1/0=0", true);
    }

    /** "one of which must hold", "all of which must", "!PIECE" */
    private static void partsAndPieces() {
        for (int i = 0; i < 16; i++) {
            boolean a = (i & 1) != 0;
            boolean b = (i & 2) != 0;
            boolean c = (i & 4) != 0;
            boolean d = (i & 8) != 0;
            String e = a ? "1=1" : "1=2";
            String f = b ? "1>0" : "1<0";
            String g = c ? "0<1" : "0>1";
            String h = d ? "[2]=2" : "[2]<2";
            holds(e + "|" + f + "&" + g + "|" + h, a || b && c || d);
            holds(e + "&" + f + "|" + g + "&" + h, a && b || c && d);
            holds("(" + e + "|" + f + ")&(" + g + "|" + h + ")", (a || b) && (c || d));
            holds("!" + e + "&" + f + "|!(" + g + "&!" + h + ")", !a && b || !(c && !d));
            holds("!(!" + e + "|!!" + f + ")&!(" + g + "|" + h + ")", !(!a || b) && !(c || d));
        }
    }

    // ---- letters at their edges ----

    private static void shown(PaidHouse x, String condition, int s, int t, boolean want) {
        Checks.law(x, 0, "c(" + condition + ")");
        same(condition + " on " + s + " at " + t, x.shows(s, t), want ? 1 : 0);
    }

    /** "g GOOD .. now", "t the SECOND", "s his SEAT", "k KNOWS", "p how many PERSONS there are" */
    private static void lettersOfWhatIsTold() {
        PaidHouse x = Checks.people(0, 40, "");
        x.seat(0, 0, 0);
        x.seat(23, 0, 1);
        x.good(39, 100, 0);
        x.good(38, 0, 100);
        shown(x, "g=100", 23, 39, true);
        shown(x, "g=0", 0, 39, true);
        shown(x, "g=0", 23, 38, true);
        shown(x, "g=100", 0, 38, true);
        shown(x, "t=0", 0, 0, true);
        shown(x, "t=39", 0, 39, true);
        shown(x, "t=39", 0, 38, false);
        shown(x, "s=0", 0, 5, true);
        shown(x, "s=23", 23, 5, true);
        shown(x, "s=23", 0, 5, false);
        shown(x, "k=0", 0, 0, true);
        shown(x, "k=1", 23, 0, true);
        shown(x, "k=1", 0, 0, false);
        shown(x, "p=2", 0, 0, true);
        x.seat(0, -1, 0);
        shown(x, "p=1", 23, 0, true);
        for (int s = 0; s < 24; s++) {
            x.seat(s, s % 4, 0);
        }
        shown(x, "p=24", 0, 0, true);
    }

    /** "n how many NEIGHBOURS clapped, z hissed; a how many in the house clapped, b hissed", "l", "q": none and all. */
    private static void lettersOfWhatWasShown() {
        PaidHouse x = new PaidHouse();
        for (int s = 0; s < 24; s++) {
            x.seat(s, s == 8 ? 0 : 1, 0);
        }
        x.seconds(4);
        Checks.law(x, 1, "c(t=1);h(t=2)");
        shown(x, "n=0&z=0&a=0&b=0&l=0&q=0", 8, 0, true);
        shown(x, "t=1&n=0&z=0&a=0&b=0", 8, 1, true);
        shown(x, "t=2&n=4&z=0&a=23&b=0", 8, 2, true);
        shown(x, "t=3&n=0&z=4&a=0&b=23", 8, 3, true);
        shown(x, "t=1|t=2&n=4&a=24&l=1", 8, 2, true);
        Checks.law(x, 0, "h(t=2);c(t=3&z=4&b=24&l=2)");
        same("he hissed himself", x.shows(8, 3), 1);
        for (int s : new int[] {2, 7, 9, 14}) {
            x.paid(s, 1 + s % 2);
        }
        shown(x, "t=0&q=4", 8, 0, true);
        x.paid(14, 0);
        shown(x, "t=0&q=3", 8, 0, true);
        x.paid(8, 1);
        x.seat(7, 0, 0);
        x.paid(7, 0);
        shown(x, "t=0&q=1", 7, 0, true);
    }

    public static void main(String[] args) {
        fiveHundredBytes();
        highestFirst();
        firstBytesOfTheTape();
        hundredAndTwentyBytes();
        theLastPlace();
        whatCanStand();
        digits();
        clauses();
        twelveClausesAsked();
        sevenOpen("");
        tillItEnds();
        theFirstFromTheLeft();
        theTextBeforeStays();
        thirtyTwoBits();
        divisions();
        fromTheLeftOn();
        dividedByZero();
        asMuchAsMatters();
        partsAndPieces();
        lettersOfWhatIsTold();
        lettersOfWhatWasShown();
        Checks.end("EdgeLawTest");
    }
}
