import java.util.ArrayList;
import java.util.Arrays;
import java.util.List;

/**
 * The document told a second time, without haste: nothing is kept ready, a law is asked straight off its
 * text, a text is judged sign by sign with a pile of what is open. RandomRunsTest sets it beside PaidHouse.
 */
final class PlainHouse {
    static final class Told {
        int wide = 6;
        int seconds = 1;
        final int[] sort = new int[24];
        final int[] knows = new int[24];
        final int[] payer = new int[24];
        final int[][] good = new int[40][2];
        int[][] shown = new int[40][24];

        Told copy() {
            Told other = new Told();
            other.wide = wide;
            other.seconds = seconds;
            System.arraycopy(sort, 0, other.sort, 0, 24);
            System.arraycopy(knows, 0, other.knows, 0, 24);
            System.arraycopy(payer, 0, other.payer, 0, 24);
            for (int t = 0; t < 40; t++) {
                other.good[t] = good[t].clone();
                other.shown[t] = shown[t].clone();
            }
            return other;
        }

        List<Integer> neighbours(int s) {
            List<Integer> found = new ArrayList<>();
            for (int o = 0; o < 24; o++) {
                boolean beside = o / wide == s / wide && Math.abs(o - s) == 1;
                boolean alongside = o % wide == s % wide && Math.abs(o / wide - s / wide) == 1;
                if (beside || alongside) {
                    found.add(o);
                }
            }
            return found;
        }

        int persons() {
            int found = 0;
            for (int s = 0; s < 24; s++) {
                found += sort[s] >= 0 ? 1 : 0;
            }
            return found;
        }

        int of(int t, int act) {
            int found = 0;
            for (int s = 0; s < 24; s++) {
                found += shown[t][s] == act ? 1 : 0;
            }
            return found;
        }

        int sum() {
            int sum = 0;
            for (int t = 0; t < seconds; t++) {
                sum += of(t, 1) - of(t, 2);
            }
            return sum;
        }

        int allGood() {
            int sum = 0;
            for (int t = 0; t < seconds; t++) {
                sum += good[t][1];
            }
            return sum;
        }
    }

    static final class Refused extends RuntimeException {
        private static final long serialVersionUID = 1L;
    }

    private Told now = new Told();
    private final List<Told> kept = new ArrayList<>();
    private final String[] texts = new String[4];
    private final int[][] plans = new int[3][40];
    private final int[] price = {0, 1, 1};
    private final int[][][] table = new int[2][5][5];
    private String tape = "";

    PlainHouse() {
        Arrays.fill(now.sort, -1);
    }

    boolean rows(int n) {
        if (n < 4 || n > 8 || now.persons() > 0) {
            return false;
        }
        now.wide = n;
        return true;
    }

    boolean seat(int s, int sort, int knows) {
        if (s < 0 || s > 23 || sort < -1 || sort > 3 || knows < 0 || knows > 1) {
            return false;
        }
        now.sort[s] = sort;
        now.knows[s] = knows;
        if (sort == -1) {
            now.payer[s] = 0;
        }
        return true;
    }

    boolean paid(int s, int by) {
        if (s < 0 || s > 23 || now.sort[s] < 0 || by < 0 || by > 2) {
            return false;
        }
        now.payer[s] = by;
        return true;
    }

    boolean seconds(int n) {
        if (n < 1 || n > 40) {
            return false;
        }
        now.seconds = n;
        return true;
    }

    boolean good(int t, int knows, int others) {
        if (t < 0 || t > 39 || knows < 0 || knows > 100 || others < 0 || others > 100) {
            return false;
        }
        now.good[t][1] = knows;
        now.good[t][0] = others;
        return true;
    }

    boolean plan(int stick, int t, int act) {
        if (stick < 1 || stick > 2 || t < 0 || t > 39 || act < 0 || act > 2) {
            return false;
        }
        plans[stick][t] = act;
        return true;
    }

    int feed(int... five) {
        if (tape.length() + 20 > 500) {
            return -1;
        }
        for (int four : five) {
            for (int i = 0; i < 4; i++) {
                tape += (char) (four >>> 24);
                four <<= 8;
            }
        }
        return tape.length();
    }

    int law(int sort, int n) {
        if (sort < 0 || sort > 3 || n < 1 || n > 120 || tape.length() < n) {
            return -1;
        }
        String text = tape.substring(0, n);
        tape = "";
        int fault = fault(text);
        if (fault != 0) {
            return fault;
        }
        texts[sort] = text;
        return clausesOf(text);
    }

    private static int clausesOf(String text) {
        return text == null ? 0 : text.split(";").length;
    }

    /** Sign by sign: what is awaited, and a pile of what is open. */
    static int fault(String text) {
        String pile = "";
        char awaited = 'L';
        boolean right = false;
        int digits = 0;
        int clauses = 0;
        for (int i = 0; i <= text.length(); i++) {
            char c = i < text.length() ? text.charAt(i) : (char) 999;
            int no = -1000 - i;
            if (awaited == 'N' && !Character.isDigit(c)) {
                awaited = 'A';
            }
            if (awaited == 'D' && c == 999 && pile.isEmpty()) {
                return 0;
            }
            if (c == 999 || c > 126) {
                return no;
            }
            boolean factor = awaited == 'P' || awaited == 'F';
            if (awaited == 'L' && (c == 'c' || c == 'h')) {
                if (clauses == 12) {
                    return -4000 - i;
                }
                clauses++;
                awaited = 'O';
            } else if (awaited == 'O' && c == '(' || awaited == 'P' && (c == '(' || c == '!') || factor && c == '[') {
                if (pile.length() == 6) {
                    return -5000 - i;
                }
                pile += c;
                right = c == '[' && right;
                awaited = c == '[' ? 'F' : 'P';
            } else if (factor && c >= '0' && c <= '9') {
                digits = 1;
                awaited = 'N';
            } else if (awaited == 'N') {
                if (++digits > 5) {
                    return -2000 - i;
                }
            } else if (factor && "gnzabpltswqk".indexOf(c) >= 0) {
                awaited = 'A';
            } else if (awaited == 'A' && "+-*/%".indexOf(c) >= 0) {
                awaited = 'F';
            } else if (awaited == 'A' && pile.endsWith("[")) {
                if (c != ']') {
                    return no;
                }
                pile = pile.substring(0, pile.length() - 1);
            } else if (awaited == 'A' && !right && "<>=".indexOf(c) >= 0) {
                right = true;
                awaited = 'F';
            } else if ((awaited == 'A' && right || awaited == 'D' && !pile.isEmpty()) && "&|)".indexOf(c) >= 0) {
                while (pile.endsWith("!")) {
                    pile = pile.substring(0, pile.length() - 1);
                }
                right = false;
                awaited = 'P';
                if (c == ')') {
                    pile = pile.substring(0, pile.length() - 1);
                    awaited = 'D';
                }
            } else if (awaited == 'D' && pile.isEmpty() && c == ';') {
                awaited = 'L';
            } else {
                return no;
            }
        }
        return 0;
    }

    /** Asks a text about one person in one second of an evening. */
    static final class Voice {
        private final String text;
        private final Told told;
        private final int s;
        private final int t;
        private int at = 0;

        Voice(String text, Told told, int s, int t) {
            this.text = text;
            this.told = told;
            this.s = s;
            this.t = t;
        }

        static int act(String law, Told told, int s, int t) {
            if (law == null) {
                return 0;
            }
            for (String clause : law.split(";")) {
                String inner = clause.substring(2, clause.length() - 1);
                boolean holds;
                try {
                    holds = new Voice(inner, told, s, t).any(true);
                } catch (Refused e) {
                    holds = false;
                }
                if (holds) {
                    return clause.charAt(0) == 'c' ? 1 : 2;
                }
            }
            return 0;
        }

        private boolean on(char c) {
            if (at < text.length() && text.charAt(at) == c) {
                at++;
                return true;
            }
            return false;
        }

        private boolean any(boolean matters) {
            boolean holds = all(matters);
            while (on('|')) {
                holds |= all(matters && !holds);
            }
            return holds;
        }

        private boolean all(boolean matters) {
            boolean holds = piece(matters);
            while (on('&')) {
                holds &= piece(matters && holds);
            }
            return holds;
        }

        private boolean piece(boolean matters) {
            if (on('!')) {
                boolean holds = piece(matters);
                return matters && !holds;
            }
            if (on('(')) {
                boolean holds = any(matters);
                on(')');
                return matters && holds;
            }
            int left = sum(matters);
            char how = text.charAt(at++);
            int right = sum(matters);
            return matters && (how == '<' ? left < right : how == '>' ? left > right : left == right);
        }

        private int sum(boolean matters) {
            int value = term(matters);
            while (true) {
                if (on('+')) {
                    value += term(matters);
                } else if (on('-')) {
                    value -= term(matters);
                } else {
                    return value;
                }
            }
        }

        private int term(boolean matters) {
            int value = factor(matters);
            while (at < text.length() && "*/%".indexOf(text.charAt(at)) >= 0) {
                char how = text.charAt(at++);
                int by = factor(matters);
                if (!matters) {
                    continue;
                }
                if (how != '*' && by == 0) {
                    throw new Refused();
                }
                value = how == '*' ? value * by : how == '/' ? value / by : value % by;
            }
            return value;
        }

        private int factor(boolean matters) {
            if (on('[')) {
                int value = sum(matters);
                on(']');
                return value;
            }
            int from = at;
            while (at < text.length() && Character.isDigit(text.charAt(at))) {
                at++;
            }
            return at > from ? Integer.parseInt(text.substring(from, at)) : letter(text.charAt(at++));
        }

        private int before(int seat) {
            return t == 0 || told.sort[seat] < 0 ? 0 : told.shown[t - 1][seat];
        }

        private int near(int act) {
            int found = 0;
            for (int o : told.neighbours(s)) {
                found += before(o) == act ? 1 : 0;
            }
            return found;
        }

        private int everywhere(int act) {
            int found = 0;
            for (int o = 0; o < 24; o++) {
                found += before(o) == act ? 1 : 0;
            }
            return found;
        }

        private int letter(char c) {
            switch (c) {
                case 'g': return told.good[t][told.knows[s]];
                case 'n': return near(1);
                case 'z': return near(2);
                case 'a': return everywhere(1);
                case 'b': return everywhere(2);
                case 'p': return told.persons();
                case 'l': return before(s);
                case 't': return t;
                case 's': return s;
                case 'w': return s / told.wide;
                case 'k': return told.knows[s];
                case 'q':
                    int found = 0;
                    for (int o : told.neighbours(s)) {
                        found += told.payer[o] != 0 ? 1 : 0;
                    }
                    return found;
                default: throw new IllegalStateException("letter " + c);
            }
        }
    }

    private Told play(int[] payer, int starters) {
        Told told = now.copy();
        System.arraycopy(payer, 0, told.payer, 0, 24);
        told.shown = new int[40][24];
        for (int t = 0; t < told.seconds; t++) {
            for (int s = 0; s < 24; s++) {
                if (told.sort[s] < 0) {
                    continue;
                }
                int act = payer[s] != 0 ? plans[payer[s]][t] : Voice.act(texts[told.sort[s]], told, s, t);
                told.shown[t][s] = t == 0 && (starters >> s & 1) == 1 ? 1 : act;
            }
        }
        return told;
    }

    private Told play() {
        return play(now.payer, 0);
    }

    int shows(int s, int t) {
        if (s < 0 || s > 23 || now.sort[s] < 0 || t < 0 || t >= now.seconds) {
            return -1;
        }
        return play().shown[t][s];
    }

    int loud(int t, int what) {
        if (t < 0 || t >= now.seconds || what < 0 || what > 1) {
            return -1;
        }
        return play().of(t, what + 1);
    }

    int house() {
        return play().sum();
    }

    boolean prices(int clap, int hiss) {
        if (clap < 0 || clap > 100 || hiss < 0 || hiss > 100) {
            return false;
        }
        price[1] = clap;
        price[2] = hiss;
        return true;
    }

    int costs(int stick) {
        if (stick != 1 && stick != 2) {
            return -1;
        }
        int sum = 0;
        for (int s = 0; s < 24; s++) {
            for (int t = 0; t < now.seconds; t++) {
                sum += now.payer[s] == stick ? price[plans[stick][t]] : 0;
            }
        }
        return sum;
    }

    int more(int stick) {
        if (stick != 1 && stick != 2) {
            return -1000000;
        }
        int[] payer = now.payer.clone();
        for (int s = 0; s < 24; s++) {
            payer[s] = payer[s] == stick ? 0 : payer[s];
        }
        return house() - play(payer, 0).sum();
    }

    int wins() {
        int last = now.seconds - 1;
        int[] shown = play().shown[last];
        int[] with = new int[3];
        for (int stick = 1; stick <= 2; stick++) {
            for (int s = 0; s < 24; s++) {
                boolean free = now.sort[s] >= 0 && now.payer[s] == 0;
                with[stick] += free && shown[s] != 0 && shown[s] == plans[stick][last] ? 1 : 0;
            }
        }
        return with[1] > with[2] ? 1 : with[2] > with[1] ? 2 : 0;
    }

    int seated(int stick, int n, int what) {
        int none = what == 1 ? -1000000 : -1;
        if (stick < 1 || stick > 2 || n < 1 || n > 3 || what < 0 || what > 1) {
            return none;
        }
        int surplus = 0;
        for (int t = 0; t < now.seconds; t++) {
            surplus += plans[stick][t] == 2 ? 1 : plans[stick][t] == 1 ? -1 : 0;
        }
        int best = -1;
        int sum = 0;
        for (int set : sets(n)) {
            int[] payer = new int[24];
            boolean can = true;
            for (int s = 0; s < 24; s++) {
                boolean others = now.payer[s] == 3 - stick;
                boolean in = (set >> s & 1) == 1;
                can &= !(in && others);
                payer[s] = others ? 3 - stick : in ? stick : 0;
            }
            if (!can) {
                continue;
            }
            int here = play(payer, 0).sum();
            boolean better = surplus > 0 ? here < sum : here > sum;
            if (best == -1 || better || here == sum && set < best) {
                best = set;
                sum = here;
            }
        }
        return best == -1 ? none : what == 0 ? best : sum;
    }

    /** All sets of n persons, in no order that matters. */
    private List<Integer> sets(int n) {
        List<Integer> found = new ArrayList<>();
        if (n == 0) {
            found.add(0);
            return found;
        }
        for (int set : sets(n - 1)) {
            for (int s = 23; s >= 0 && set >> s == 0; s--) {
                if (now.sort[s] >= 0) {
                    found.add(set | 1 << s);
                }
            }
        }
        return found;
    }

    int begins() {
        if (now.persons() == 0) {
            return -1;
        }
        for (int n = 0; n <= 3; n++) {
            int least = Integer.MAX_VALUE;
            for (int set : sets(n)) {
                if (play(new int[24], set).of(now.seconds - 1, 1) == now.persons()) {
                    least = Math.min(least, set);
                }
            }
            if (least != Integer.MAX_VALUE) {
                return least;
            }
        }
        return -2;
    }

    int silent(int what) {
        if (what < 0 || what > 2) {
            return -1000000;
        }
        Told told = play(new int[24], 0);
        int heard = 0;
        int knowing = 0;
        for (int s = 0; s < 24; s++) {
            int acts = 0;
            for (int t = 0; t < told.seconds; t++) {
                acts += told.shown[t][s];
            }
            heard += acts > 0 ? 1 : 0;
            knowing += acts > 0 && told.knows[s] == 1 ? 1 : 0;
        }
        return what == 0 ? told.sum() : what == 1 ? heard : knowing;
    }

    boolean table(int who, int a, int b, int has) {
        if (who < 0 || who > 1 || a < 0 || a > 4 || b < 0 || b > 4 || has < -1000 || has > 1000) {
            return false;
        }
        table[who][a][b] = has;
        return true;
    }

    int rests(int m, int what) {
        if (m < 2 || m > 5) {
            return -1;
        }
        List<Integer> found = new ArrayList<>();
        for (int pair = 0; pair < m * m; pair++) {
            int a = pair / m;
            int b = pair % m;
            boolean rest = true;
            for (int o = 0; o < m; o++) {
                rest &= table[0][o][b] <= table[0][a][b] && table[1][a][o] <= table[1][a][b];
            }
            if (rest) {
                found.add(5 * a + b);
            }
        }
        return what == -1 ? found.size() : what >= 0 && what < found.size() ? found.get(what) : -1;
    }

    int keep() {
        if (kept.size() == 20) {
            return -1;
        }
        kept.add(play());
        return kept.size();
    }

    int hears(int what) {
        if (what < 0 || what > 1) {
            return -1;
        }
        int[] found = new int[2];
        for (int i = 0; i < kept.size(); i++) {
            for (int j = i + 1; j < kept.size(); j++) {
                long way = (long) (kept.get(i).sum() - kept.get(j).sum())
                        * (kept.get(i).allGood() - kept.get(j).allGood());
                if (way != 0) {
                    found[way > 0 ? 0 : 1]++;
                }
            }
        }
        return found[what];
    }

    int otherwise(int s) {
        if (s < 0 || s > 23 || now.sort[s] < 0) {
            return -1;
        }
        int found = 0;
        for (Told told : kept) {
            for (int t = 0; t < told.seconds && told.sort[s] >= 0; t++) {
                found += Voice.act(texts[told.sort[s]], told, s, t) != told.shown[t][s] ? 1 : 0;
            }
        }
        return found;
    }

    int suspects(int n) {
        if (n < 1 || n > 800) {
            return -1;
        }
        int found = 0;
        for (int s = 0; s < 24; s++) {
            found |= otherwise(s) >= n ? 1 << s : 0;
        }
        return found;
    }

    /** All ways of the lot, one after the other. */
    long funnier(int n, int m, int k, int j, int what) {
        if (n < 1 || n > 20 || m < 0 || m > n || k < 0 || k > m || j < 0 || j > n - m || what < 0 || what > 1) {
            return -1;
        }
        int laughing = (1 << k + j) - 1;
        int above = 0;
        int below = 0;
        for (int lot = 0; lot < 1 << n; lot++) {
            if (Integer.bitCount(lot) == m) {
                below++;
                above += Integer.bitCount(lot & laughing) >= k ? 1 : 0;
            }
        }
        for (int by = above; by > 1; by--) {
            if (above % by == 0 && below % by == 0) {
                above /= by;
                below /= by;
                by = above + 1;
            }
        }
        return what == 0 ? above : below;
    }

    int years(int first, int second, int years, int thousandths) {
        if (first < 0 || first > 10000 || second < 0 || second > 10000 || years < 1 || years > 50
                || thousandths < 0 || thousandths > 1000) {
            return -1;
        }
        int way = Integer.signum(more(1) - more(2));
        for (int year = 0; year < years; year++) {
            int moved = (way > 0 ? second : first) * thousandths / 1000;
            first += way * moved;
            second -= way * moved;
        }
        return first;
    }

    int check(int n) {
        if (n < 0 || 12L * n > tape.length()) {
            return -2;
        }
        Told told = play();
        String here = tape;
        tape = "";
        for (int place = 0; place < 3 * n; place++) {
            int number = 0;
            for (int i = 0; i < 4; i++) {
                number = number * 256 + here.charAt(4 * place + i);
            }
            int t = place / 3;
            if (t >= told.seconds || number != (place % 3 == 0 ? t : told.of(t, place % 3))) {
                return place;
            }
        }
        return n < told.seconds ? 3 * n : -1;
    }

    int count(int what) {
        if (what >= 10 && what < 14) {
            return clausesOf(texts[what - 10]);
        }
        if (what >= 20 && what < 44) {
            return now.sort[what - 20];
        }
        if (what >= 50 && what < 74) {
            return now.sort[what - 50] < 0 ? -1 : now.payer[what - 50];
        }
        int[] first = {now.wide, now.persons(), now.seconds, tape.length(), kept.size(), price[1], price[2]};
        return what >= 0 && what < 7 ? first[what] : -1;
    }
}
