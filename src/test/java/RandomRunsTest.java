import java.util.Random;

/** Runs of calls by lot (always the same lot), each answered by PaidHouse and by PlainHouse. */
public final class RandomRunsTest {
    private static final String LETTERS = "gnzabpltswqk";
    /** No step makes more than 60 calls, and an object is used for 512 at most. */
    private static final int MOST_CALLS = 450;
    private final Random lot;
    private final PaidHouse house = new PaidHouse();
    private final PlainHouse plain = new PlainHouse();
    private final StringBuilder story = new StringBuilder();
    private final boolean small;
    private boolean fine = true;
    private int calls = 0;

    private RandomRunsTest(long seed) {
        lot = new Random(seed);
        small = seed % 4 != 0;
    }

    /** Within the bounds as a rule, now and then at or beyond an edge. */
    private int some(int least, int greatest) {
        int kind = lot.nextInt(60);
        if (kind == 0) {
            return least - 1;
        }
        if (kind == 1) {
            return greatest + 1;
        }
        if (kind == 2) {
            return lot.nextInt(5) == 0 ? (lot.nextBoolean() ? Integer.MIN_VALUE : Integer.MAX_VALUE) : lot.nextInt();
        }
        if (kind < 8) {
            return kind % 2 == 0 ? least : greatest;
        }
        return least + lot.nextInt(greatest - least + 1);
    }

    private String factor(int deep) {
        int kind = lot.nextInt(10);
        if (kind == 0 && deep < 6) {
            return "[" + sum(deep + 1) + "]";
        }
        if (kind < 4) {
            return "" + lot.nextInt(kind == 1 ? 3 : kind == 2 ? 60 : lot.nextInt(20) == 0 ? 200000 : 9);
        }
        return "" + LETTERS.charAt(lot.nextInt(LETTERS.length()));
    }

    private String term(int deep) {
        String text = factor(deep);
        while (lot.nextInt(5) == 0) {
            text += "*/%".charAt(lot.nextInt(3)) + factor(deep);
        }
        return text;
    }

    private String sum(int deep) {
        String text = term(deep);
        while (lot.nextInt(5) == 0) {
            text += "+-".charAt(lot.nextInt(2)) + term(deep);
        }
        return text;
    }

    private String piece(int deep) {
        int kind = lot.nextInt(deep > 3 ? 3 : 8);
        if (kind == 0 && deep < 7) {
            return "!" + piece(deep + 1);
        }
        if (kind == 1 && deep < 7) {
            return "(" + condition(deep + 1) + ")";
        }
        return sum(deep) + "<>=".charAt(lot.nextInt(3)) + sum(deep);
    }

    private String condition(int deep) {
        String text = piece(deep);
        while (lot.nextInt(3) == 0) {
            text += "|&".charAt(lot.nextInt(2)) + piece(deep);
        }
        return text;
    }

    private String lawText() {
        StringBuilder text = new StringBuilder();
        int clauses = lot.nextInt(20) == 0 ? 14 : 1 + lot.nextInt(4);
        for (int i = 0; i < clauses; i++) {
            String one = clauses == 14 ? LETTERS.charAt(lot.nextInt(12)) + ">" + lot.nextInt(9) : condition(1);
            text.append(i > 0 ? ";" : "").append(lot.nextInt(3) == 0 ? "h(" : "c(").append(one).append(")");
        }
        if (text.length() > 120) {
            text.setLength(lot.nextInt(2) == 0 ? 120 : Math.max(1, text.lastIndexOf(";", 120)));
        }
        if (lot.nextInt(6) == 0) {
            String signs = "ch()[]!&|<>=+-*/%0123456789;gnzabpltswqk x\u00ff\u0000";
            text.setCharAt(lot.nextInt(text.length()), signs.charAt(lot.nextInt(signs.length())));
        }
        return text.toString();
    }

    private void same(String call, long got, long want) {
        calls++;
        story.append(call).append(" -> ").append(want).append('\n');
        if (got != want) {
            fine = false;
            Checks.fail(story + "^ the last one answered " + got);
        }
    }

    private void same(String call, boolean got, boolean want) {
        same(call, got ? 1 : 0, want ? 1 : 0);
    }

    private void feedBoth(int... five) {
        int got = house.feed(five[0], five[1], five[2], five[3], five[4]);
        same("feed" + java.util.Arrays.toString(five), got, plain.feed(five));
    }

    private void tellLaw() {
        String text = lawText();
        byte[] bytes = text.getBytes(java.nio.charset.StandardCharsets.ISO_8859_1);
        for (int i = 0; i < bytes.length; i += 20) {
            feedBoth(Checks.at(bytes, i), Checks.at(bytes, i + 4), Checks.at(bytes, i + 8),
                    Checks.at(bytes, i + 12), Checks.at(bytes, i + 16));
        }
        int sort = some(0, 3);
        int n = lot.nextInt(20) == 0 ? some(1, 120) : text.length();
        same("law " + sort + " " + n + " " + text, house.law(sort, n), plain.law(sort, n));
        if (lot.nextInt(3) > 0) {
            same("count tape", house.count(3), plain.count(3));
        }
    }

    private void check() {
        int seconds = plain.count(2);
        int told = Math.max(0, seconds + (lot.nextInt(3) == 0 ? lot.nextInt(3) - 1 : 0));
        int[] numbers = new int[3 * told + 5];
        for (int t = 0; t < told; t++) {
            numbers[3 * t] = t;
            numbers[3 * t + 1] = Math.max(0, plain.loud(t, 0));
            numbers[3 * t + 2] = Math.max(0, plain.loud(t, 1));
        }
        if (told > 0 && lot.nextInt(3) == 0) {
            numbers[lot.nextInt(3 * told)] += lot.nextInt(3) - 1;
        }
        for (int i = 0; i + 5 <= numbers.length && i < 3 * told; i += 5) {
            feedBoth(numbers[i], numbers[i + 1], numbers[i + 2], numbers[i + 3], numbers[i + 4]);
        }
        int n = lot.nextInt(10) == 0 ? some(0, 41) : told;
        same("check " + n, house.check(n), plain.check(n));
        same("count tape", house.count(3), plain.count(3));
    }

    private void tell() {
        int a = some(0, small ? 9 : 23);
        switch (lot.nextInt(12)) {
            case 0: {
                int n = some(4, 8);
                same("rows " + n, house.rows(n), plain.rows(n));
                return;
            }
            case 1: case 2: case 3: {
                int sort = some(-1, 3);
                int knows = some(0, 1);
                same("seat " + a + " " + sort + " " + knows, house.seat(a, sort, knows), plain.seat(a, sort, knows));
                return;
            }
            case 4: case 5: {
                int by = some(0, 2);
                same("paid " + a + " " + by, house.paid(a, by), plain.paid(a, by));
                return;
            }
            case 6: {
                int n = some(1, small ? 6 : 40);
                same("seconds " + n, house.seconds(n), plain.seconds(n));
                return;
            }
            case 7: {
                int t = some(0, lot.nextInt(4) == 0 ? 39 : 5);
                int knows = some(0, 100);
                int others = some(0, 100);
                same("good " + t + " " + knows + " " + others, house.good(t, knows, others), plain.good(t, knows, others));
                return;
            }
            case 8: case 9: {
                int stick = some(1, 2);
                int t = some(0, lot.nextInt(4) == 0 ? 39 : 5);
                int act = some(0, 2);
                same("plan " + stick + " " + t + " " + act, house.plan(stick, t, act), plain.plan(stick, t, act));
                return;
            }
            case 10: {
                int clap = some(0, 100);
                int hiss = some(0, 100);
                same("prices " + clap + " " + hiss, house.prices(clap, hiss), plain.prices(clap, hiss));
                return;
            }
            default: {
                int who = some(0, 1);
                int x = some(0, 4);
                int y = some(0, 4);
                int has = lot.nextBoolean() ? some(-1000, 1000) : lot.nextInt(4);
                same("table " + who + " " + x + " " + y + " " + has, house.table(who, x, y, has), plain.table(who, x, y, has));
            }
        }
    }

    private void askEvening() {
        int s = some(0, small ? 9 : 23);
        int t = some(0, Math.max(1, plain.count(2)) - 1);
        int stick = some(1, 2);
        int what = some(0, 1);
        same("shows " + s + " " + t, house.shows(s, t), plain.shows(s, t));
        same("loud " + t + " " + what, house.loud(t, what), plain.loud(t, what));
        same("house", house.house(), plain.house());
        same("costs " + stick, house.costs(stick), plain.costs(stick));
        same("more " + stick, house.more(stick), plain.more(stick));
        same("wins", house.wins(), plain.wins());
        int silence = some(0, 2);
        same("silent " + silence, house.silent(silence), plain.silent(silence));
        int n = some(1, 3);
        if (small || lot.nextInt(20) == 0 && plain.count(1) * plain.count(2) < 150) {
            same("seated " + stick + " " + n + " " + what, house.seated(stick, n, what), plain.seated(stick, n, what));
            same("begins", house.begins(), plain.begins());
        }
    }

    private static int upToTwenty(int n) {
        return Math.max(0, Math.min(n, 20));
    }

    private void askRest() {
        int what = some(-1, 3);
        int m = some(2, 5);
        same("rests " + m + " " + what, house.rests(m, what), plain.rests(m, what));
        int n = some(1, lot.nextInt(10) == 0 ? 20 : 9);
        int boxes = some(0, upToTwenty(n));
        int k = some(0, upToTwenty(boxes));
        int j = some(0, Math.max(0, upToTwenty(n) - upToTwenty(boxes)));
        int part = some(0, 1);
        same("funnier " + n + " " + boxes + " " + k + " " + j + " " + part,
                house.funnier(n, boxes, k, j, part), plain.funnier(n, boxes, k, j, part));
        int first = some(0, 10000);
        int second = some(0, 10000);
        int years = some(1, 50);
        int thousandths = some(0, 1000);
        same("years " + first + " " + second + " " + years + " " + thousandths,
                house.years(first, second, years, thousandths), plain.years(first, second, years, thousandths));
        int which = some(0, 75);
        same("count " + which, house.count(which), plain.count(which));
    }

    private void askKept() {
        int s = some(0, small ? 9 : 23);
        int n = lot.nextInt(4) == 0 ? some(1, 800) : some(1, 12);
        int what = some(0, 1);
        same("hears " + what, house.hears(what), plain.hears(what));
        same("otherwise " + s, house.otherwise(s), plain.otherwise(s));
        same("suspects " + n, house.suspects(n), plain.suspects(n));
    }

    /** Without it most houses would be empty or still. */
    private void fill() {
        int people = lot.nextInt(small ? 8 : 24);
        for (int i = 0; i < people; i++) {
            int s = lot.nextInt(small ? 10 : 24);
            int sort = lot.nextInt(4);
            int knows = lot.nextInt(2);
            same("seat " + s + " " + sort + " " + knows, house.seat(s, sort, knows), plain.seat(s, sort, knows));
            int by = Math.max(0, lot.nextInt(5) - 2);
            same("paid " + s + " " + by, house.paid(s, by), plain.paid(s, by));
        }
        int seconds = 1 + lot.nextInt(small ? 6 : 40);
        same("seconds " + seconds, house.seconds(seconds), plain.seconds(seconds));
        for (int t = 0; t < seconds; t++) {
            int good = lot.nextInt(101);
            int act = lot.nextInt(3);
            same("good " + t + " " + good, house.good(t, good, good / 2), plain.good(t, good, good / 2));
            same("plan 1 " + t + " " + act, house.plan(1, t, act), plain.plan(1, t, act));
            same("plan 2 " + t + " " + (act + 1) % 3, house.plan(2, t, (act + 1) % 3), plain.plan(2, t, (act + 1) % 3));
        }
        for (int i = 0; i < 6; i++) {
            tellLaw();
        }
    }

    private void run() {
        int width = 4 + lot.nextInt(5);
        same("rows " + width, house.rows(width), plain.rows(width));
        if (lot.nextInt(8) > 0) {
            fill();
        }
        while (fine && calls < MOST_CALLS) {
            switch (lot.nextInt(12)) {
                case 0: tellLaw(); break;
                case 1: askEvening(); break;
                case 2: askRest(); break;
                case 3: same("keep", house.keep(), plain.keep()); askKept(); break;
                case 4: check(); break;
                case 5: emptyTheHouse(); break;
                default: tell();
            }
        }
    }

    /** Else rows could hardly ever change behind an evening that has been kept. */
    private void emptyTheHouse() {
        if (lot.nextInt(12) > 0) {
            return;
        }
        for (int s = 0; s < 24; s++) {
            same("seat " + s + " empty", house.seat(s, -1, 0), plain.seat(s, -1, 0));
        }
        int n = some(4, 8);
        same("rows " + n, house.rows(n), plain.rows(n));
    }

    public static void main(String[] args) {
        int runs = args.length > 0 ? Integer.parseInt(args[0]) : 600;
        for (int seed = 0; seed < runs; seed++) {
            RandomRunsTest test = new RandomRunsTest(seed);
            try {
                test.run();
            } catch (RuntimeException e) {
                Checks.fail(test.story + "^ then: " + e);
                e.printStackTrace(System.out);
            }
            if (test.fine) {
                Checks.same("seed " + seed, 0, 0);
            }
        }
        Checks.end("RandomRunsTest");
    }
}
