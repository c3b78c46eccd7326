/** Promise 9 and the terms of THE LAW: texts that stand, faults and their places, what a text asks. */
public final class LawTest {
    private static final PaidHouse READER = new PaidHouse();

    private static void reads(String text, int want) {
        Checks.same("law " + text, reads(text), want);
    }

    private static int reads(String text) {
        PaidHouse x = new PaidHouse();
        return Checks.law(x, 1, text);
    }

    private static void textsThatStand() {
        reads("c(n>0)", 1);
        reads("h(0=0)", 1);
        reads("c(g+n-z*a/b%p<l)", 1);
        reads("c(t=s&w>q|k<00001)", 1);
        reads("c(!n>0);h(!!z=1);c((n=1))", 3);
        reads("c([n]>[1+[2*a]])", 1);
        reads("c(!(n>0|!z<1)&(a=b))", 1);
        reads("c(99999>00000)", 1);
        reads("c(1=1);c(1=1);c(1=1);c(1=1);c(1=1);c(1=1);c(1=1);c(1=1);c(1=1);c(1=1);c(1=1);c(1=1)", 12);
    }

    private static void whatCannotStand() {
        reads("x", -1000);
        reads(";", -1000);
        reads("(1=1)", -1000);
        reads(" c(1=1)", -1000);
        reads("C(1=1)", -1000);
        reads("c1=1)", -1001);
        reads("c[1=1)", -1001);
        reads("c()", -1002);
        reads("c(=1)", -1002);
        reads("c(-1=1)", -1002);
        reads("c(c>1)", -1002);
        reads("c(1)", -1003);
        reads("c(1 =1)", -1003);
        reads("c(1&1=1)", -1003);
        reads("c(1==1)", -1004);
        reads("c(1=!1)", -1004);
        reads("c(1=(1))", -1004);
        reads("c(1=1=1)", -1005);
        reads("c(1=1]", -1005);
        reads("c(1=nn)", -1005);
        reads("c(1=1n)", -1005);
        reads("c(1=n1)", -1005);
        reads("c(1=1&)", -1006);
        reads("c(1=1|&1=1)", -1006);
        reads("c(1=1))", -1006);
        reads("c(1=1)c(1=1)", -1006);
        reads("c(1=1)&c(1=1)", -1006);
        reads("c(1=1);;c(1=1)", -1007);
        reads("c([1>1)", -1004);
        reads("c([1)>1)", -1004);
        reads("c([]>1)", -1003);
        reads("c([1=1]>1)", -1004);
        reads("c((1)>1)", -1004);
        reads("c((1>1)>1)", -1007);
        reads("c(!)", -1003);
        reads("c(!!1)", -1005);
        reads("c(1+*1=1)", -1004);
        reads("c(1+=1)", -1004);
        reads("c(1+1)", -1005);
        reads("c(1=1*)", -1006);
        reads("c(1=1" + (char) 0, -1005);
        reads("c(1=1)" + (char) 0, -1006);
        reads("c(1=" + (char) 255 + ")", -1004);
        reads("c(1=" + (char) ('n' + 128) + ")", -1004);
    }

    private static void theEnd() {
        String whole = "c(!(n>12&[z+1]<3));h(1=1)";
        for (int n = 1; n < whole.length(); n++) {
            boolean stands = n == 18;
            reads(whole.substring(0, n), stands ? 1 : -1000 - n);
        }
        reads(whole, 2);
        reads("c(1=1);", -1007);
    }

    private static void digits() {
        reads("c(123456>1)", -2007);
        reads("c(1>000000)", -2009);
        reads("c(1>12345)", 1);
        reads("c(1>12345+123456)", -2015);
        reads("c(1>1234567", -2009);
        reads("x123456", -1000);
    }

    private static void clauses() {
        String twelve = "c(1=1);c(1=1);c(1=1);c(1=1);c(1=1);c(1=1);h(1=1);h(1=1);h(1=1);h(1=1);h(1=1);h(1=1)";
        reads(twelve + ";c(1=1)", -4084);
        reads(twelve + ";h", -4084);
        reads(twelve + ";c x", -4084);
        reads(twelve + ";x", -1084);
        reads(twelve + ";", -1084);
        reads(twelve + ";;", -1084);
    }

    private static void openInOneAnother() {
        reads("c((((((1=1))))))", 1);
        reads("c(((((((1=1)))))))", -5007);
        reads("c(!!!!!1=1)", 1);
        reads("c(!!!!!!1=1)", -5007);
        reads("c([[[[[1]]]]]=1)", 1);
        reads("c([[[[[[1]]]]]]=1)", -5007);
        reads("c(1=[[[[[1]]]]])", 1);
        reads("c(1=[[[[[[1]]]]]])", -5009);
        reads("c(!(!([1]=[1])))", 1);
        reads("c(!(!([[1]]=[1])))", -5007);
        reads("c(!(!([1]=[[1]])))", -5011);
        reads("c(!(!(![1]=1)))", -5007);
        reads("c(!!!!!1=1&!!!!!1=1|!!!!!1=1)", 1);
        reads("c(!!!!!1=1);c(!!!!!1=1)", 2);
        reads("c(!!!!(1=1)&!!!!!1=1)", 1);
        reads("c(!!!!!(1=1))", -5007);
        reads("c(!!!!!1=[1])", -5009);
        reads("c(((((((", -5007);
        reads("c((((((;", -1007);
        reads("c((((((1(", -1008);
        reads("c(!!!!!1[", -1008);
        reads("c(!!!!!1=!", -1009);
        reads("c(([1]=1)&([[[1]]]=1)&(((([1]=1)))))", 1);
    }

    /** What one person alone on seat 9 shows by a text at second 1 of two, having clapped at the first. */
    private static int act(String condition) {
        PaidHouse x = new PaidHouse();
        x.rows(4);
        x.seat(9, 2, 1);
        x.seconds(2);
        x.good(1, 60, 30);
        Checks.same("law of " + condition, Checks.law(x, 2, "c(t=0);" + condition) > 0, true);
        Checks.same("claps first", x.shows(9, 0), 1);
        return x.shows(9, 1);
    }

    private static void holds(String condition, boolean want) {
        Checks.same(condition, act("h(" + condition + ")"), want ? 2 : 0);
        boolean refused = condition.contains("/0") || condition.contains("%0") || condition.contains("/[l-1]");
        if (!refused && condition.length() < 90) {
            Checks.same("not " + condition, act("h(!(" + condition + "))"), want ? 0 : 2);
        }
    }

    private static void reckoning() {
        holds("2+3*4=14", true);
        holds("2*3+4=10", true);
        holds("[2+3]*4=20", true);
        holds("10-3-2=5", true);
        holds("100/7/2=7", true);
        holds("100/7*7=98", true);
        holds("17%5*2=4", true);
        holds("[0-7]/2=0-3", true);
        holds("[0-7]%2=0-1", true);
        holds("7%[0-2]=1", true);
        holds("99999*99999/10000=14098*10+6", true);
        holds("32768*32768*2<0", true);
        holds("32768*32768*4=0", true);
        holds("[32768*32768*2]/[0-1]=32768*32768*2", true);
        holds("[32768*32768*2]%[0-1]=0", true);
        holds("32768*32768*2-1>0", true);
        holds("3<3", false);
        holds("3>3", false);
        holds("00012=12", true);
    }

    private static void refusing() {
        holds("1/0=0", false);
        holds("1%0=0", false);
        holds("0/0<1", false);
        holds("1/0=0|1=1", false);
        holds("!1/0=0", false);
        holds("!(1/0=0)", false);
        holds("(1/0=0)|1=1", false);
        holds("1=1|1/0=0", true);
        holds("1=2&1/0=0|1=1", true);
        holds("1=1&1/0=0|1=1", false);
        holds("!(1=2&1/0=0)", true);
        holds("(1=1|1/0=0)&2=2", true);
        holds("0*[1/0]=0", false);
        holds("5/[l-1]=0", false);
        holds("5/l=5", true);
        Checks.same("the next clause is asked", act("h(1/0=0|1=1);h(2>1)"), 2);
        Checks.same("the next clause, deep in", act("h(1+2*[3-4/[0]]>1);c(1+[2*2]=5)"), 1);
    }

    private static void joining() {
        holds("1=2|1=1&1=2", false);
        holds("1=1|1=1&1=2", true);
        holds("1=2&1=1|1=1", true);
        holds("(1=1|1=1)&1=2", false);
        holds("!1=2&1=2", false);
        holds("!(1=2&1=2)", true);
        holds("!!1=1", true);
        holds("!1=1|1=1", true);
        holds("1=2|1=2|1=2|1=1", true);
        holds("1=1&1=1&1=1&1=2", false);
        Checks.same("the first that holds", act("h(1=2);c(1=1);h(1=1)"), 1);
        Checks.same("none holds", act("h(1=2);c(1=2)"), 0);
    }

    private static void letters() {
        holds("g=60&n=0&z=0&a=1&b=0&p=1&l=1&t=1&s=9&w=2&q=0&k=1", true);
        PaidHouse x = new PaidHouse();
        x.rows(5);
        x.seconds(2);
        x.good(0, 7, 8);
        x.good(1, 9, 11);
        int[] sorts = {1, 1, 2, 2, 2};
        int[] seats = {1, 7, 5, 11, 23};
        for (int i = 0; i < 5; i++) {
            x.seat(seats[i], sorts[i], 0);
        }
        x.seat(6, 0, 0);
        x.paid(1, 1);
        x.paid(5, 2);
        Checks.law(x, 1, "c(t=0)");
        Checks.law(x, 2, "h(1=1)");
        x.plan(1, 0, 1);
        x.plan(2, 0, 2);
        Checks.same("all letters of seat 6", Checks.law(x, 0,
                "c(t=1&g=11&n=2&z=2&a=2&b=3&p=6&l=0&s=6&w=1&q=2&k=0);h(t=0&g=8&n=0&z=0&a=0&b=0&l=0&q=2)"), 2);
        Checks.same("at second 0 nothing was shown", x.shows(6, 0), 2);
        Checks.same("at second 1: he hissed himself", x.shows(6, 1), 0);
        Checks.law(x, 0, "c(t=1&g=11&n=2&z=2&a=2&b=3&p=6&l=0&s=6&w=1&q=2&k=0)");
        Checks.same("at second 1: he showed nothing", x.shows(6, 1), 1);
        Checks.law(x, 0, "h(t=0);c(t=1&b=4&l=2)");
        Checks.same("at second 1: l is 2, b counts him", x.shows(6, 1), 1);
    }

    private static void afterAFault() {
        READER.seat(0, 0, 0);
        Checks.law(READER, 0, "c(1=1)");
        for (String text : new String[] {"h(1=1);h(", "h(1=1);x", "h(123456=1)", "h(!!!!!!1=1)", "h(1=1)h"}) {
            Checks.same("a fault " + text, Checks.law(READER, 0, text) < -999, true);
            Checks.same("the text before stays", READER.shows(0, 0), 1);
            Checks.same("its clauses stay", READER.count(10), 1);
        }
        Checks.law(READER, 1, "h(1=1)");
        Checks.law(READER, 0, "c(1=1);h(1=1)");
        READER.seat(0, 1, 0);
        Checks.same("laws stay apart", READER.shows(0, 0), 2);
    }

    public static void main(String[] args) {
        textsThatStand();
        whatCannotStand();
        theEnd();
        digits();
        clauses();
        openInOneAnother();
        reckoning();
        refusing();
        joining();
        letters();
        afterAFault();
        Checks.end("LawTest");
    }
}
