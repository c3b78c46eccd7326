/**
 * A house of seats in which some know, some wait for others and some are paid by a stick.
 * What each call answers is told by the document, ../shared/DOC.md, promise by promise.
 */
public final class PaidHouse {
    public static final int NONE = -1;

    private static final int SEATS = 24;
    private static final int NARROWEST = 4;
    private static final int WIDEST = 8;
    private static final int SORTS = 4;
    private static final int SECONDS = 40;
    private static final int BEST = 100;
    private static final int TAPE = 500;
    private static final int FED = 20;
    private static final int TEXT = 120;
    private static final int EVENINGS = 20;
    private static final int SUMS = 5;
    private static final int HIGHEST_SUM = 1000;
    private static final int HOMES = 20;
    private static final int PICKED = 3;
    /** Above the 2024 ways to pick three of 24. */
    private static final int MOST_SETS = 3000;

    private static final int NOTHING = 0;
    private static final int CLAP = 1;
    private static final int HISS = 2;

    private static final int NO_SUCH = -1000000;
    private static final int NOT_ENOUGH = -2;

    private final Evening now;
    /** Evenings that are only supposed are played here; it shares the seconds of the evening now. */
    private final Evening trial;
    private boolean stale;
    private final Evening[] kept;
    private int keptEvenings;
    private final Asker asker;
    private final Law[] laws;
    /** A text is read into this one first, so that a fault leaves the law before as it was. */
    private Law spare;
    private final Reader reader;
    private final byte[] tape;
    private int tapeSize;
    private final int[] firstPlan;
    private final int[] secondPlan;
    private int clapPrice;
    private int hissPrice;
    private final int[] firstSums;
    private final int[] secondSums;

    public PaidHouse() {
        now = new Evening(new Bill());
        trial = new Evening(now.bill);
        stale = true;
        kept = new Evening[EVENINGS];
        for (int i = 0; i < EVENINGS; i++) {
            kept[i] = new Evening(new Bill());
        }
        asker = new Asker(now.crowd);
        laws = new Law[SORTS];
        for (int i = 0; i < SORTS; i++) {
            laws[i] = new Law();
        }
        spare = new Law();
        tape = new byte[TAPE];
        reader = new Reader(tape, spare);
        firstPlan = new int[SECONDS];
        secondPlan = new int[SECONDS];
        clapPrice = 1;
        hissPrice = 1;
        firstSums = new int[SUMS * SUMS];
        secondSums = new int[SUMS * SUMS];
    }

    // ---- the house and its evening, as told ----

    public boolean rows(int n) {
        if (!within(n, NARROWEST, WIDEST) || now.crowd.persons != 0) {
            return false;
        }
        now.crowd.wide = n;
        stale = true;
        return true;
    }

    public boolean seat(int s, int sort, int knows) {
        if (!isSeat(s) || !within(sort, NONE, SORTS - 1) || !within(knows, 0, 1)) {
            return false;
        }
        if (sort == NONE) {
            now.crowd.leave(s);
        } else {
            now.crowd.sit(s, sort, knows);
        }
        stale = true;
        return true;
    }

    public boolean paid(int s, int by) {
        if (!isSeat(s) || !now.crowd.has(s) || !within(by, 0, 2)) {
            return false;
        }
        now.crowd.hire(s, by);
        stale = true;
        return true;
    }

    public boolean seconds(int n) {
        if (!within(n, 1, SECONDS)) {
            return false;
        }
        now.bill.length = n;
        stale = true;
        return true;
    }

    public boolean good(int t, int knows, int others) {
        if (!within(t, 0, SECONDS - 1) || !within(knows, 0, BEST) || !within(others, 0, BEST)) {
            return false;
        }
        now.bill.forKnowing[t] = knows;
        now.bill.forOthers[t] = others;
        stale = true;
        return true;
    }

    public boolean plan(int stick, int t, int act) {
        if (!isStick(stick) || !within(t, 0, SECONDS - 1) || !within(act, NOTHING, HISS)) {
            return false;
        }
        planOf(stick)[t] = act;
        stale = true;
        return true;
    }

    public boolean prices(int clap, int hiss) {
        if (!within(clap, 0, BEST) || !within(hiss, 0, BEST)) {
            return false;
        }
        clapPrice = clap;
        hissPrice = hiss;
        return true;
    }

    // ---- the tape and the laws ----

    public int feed(int a, int b, int c, int d, int e) {
        if (tapeSize > TAPE - FED) {
            return NONE;
        }
        append(a);
        append(b);
        append(c);
        append(d);
        append(e);
        return tapeSize;
    }

    public int law(int sort, int n) {
        if (!within(sort, 0, SORTS - 1) || !within(n, 1, TEXT) || n > tapeSize) {
            return NONE;
        }
        int found = reader.read(n, spare);
        tapeSize = 0;
        if (found > 0) {
            Law before = laws[sort];
            laws[sort] = spare;
            spare = before;
            stale = true;
        }
        return found;
    }

    // ---- the evening, played ----

    public int shows(int s, int t) {
        if (!isSeat(s) || !now.crowd.has(s) || !isNow(t)) {
            return NONE;
        }
        return played().shown(s, t);
    }

    public int loud(int t, int what) {
        if (!isNow(t) || !within(what, 0, 1)) {
            return NONE;
        }
        return what == 0 ? played().clapping(t) : played().hissing(t);
    }

    public int house() {
        return played().sum;
    }

    public int costs(int stick) {
        if (!isStick(stick)) {
            return NONE;
        }
        int each = planned(stick, CLAP) * clapPrice + planned(stick, HISS) * hissPrice;
        return each * Integer.bitCount(now.crowd.paidBy(stick));
    }

    public int more(int stick) {
        return isStick(stick) ? added(stick) : NO_SUCH;
    }

    public int wins() {
        int first = followers(1);
        int second = followers(2);
        if (first == second) {
            return 0;
        }
        return first > second ? 1 : 2;
    }

    // ---- evenings that are only supposed ----

    public int seated(int stick, int n, int what) {
        int none = what == 1 ? NO_SUCH : NONE;
        if (!isStick(stick) || !within(n, 1, PICKED) || !within(what, 0, 1)) {
            return none;
        }
        int set = bestSet(stick, n);
        if (set == NONE) {
            return none;
        }
        return what == 0 ? set : houseWith(stick, set);
    }

    public int begins() {
        if (now.crowd.persons == 0) {
            return NONE;
        }
        for (int n = 0; n <= PICKED; n++) {
            int set = leastBeginners(n);
            if (set != NONE) {
                return set;
            }
        }
        return NOT_ENOUGH;
    }

    public int silent(int what) {
        if (!within(what, 0, 2)) {
            return NO_SUCH;
        }
        playUnpaid(0);
        if (what == 0) {
            return trial.sum;
        }
        int heard = trial.heard();
        return Integer.bitCount(what == 1 ? heard : heard & trial.crowd.knowing);
    }

    // ---- two tenors ----

    public boolean table(int who, int a, int b, int has) {
        if (!within(who, 0, 1) || !within(a, 0, SUMS - 1) || !within(b, 0, SUMS - 1)
                || !within(has, -HIGHEST_SUM, HIGHEST_SUM)) {
            return false;
        }
        int[] sums = who == 0 ? firstSums : secondSums;
        sums[SUMS * a + b] = has;
        return true;
    }

    public int rests(int m, int what) {
        if (!within(m, 2, SUMS) || what < NONE) {
            return NONE;
        }
        int found = 0;
        for (int a = 0; a < m; a++) {
            for (int b = 0; b < m; b++) {
                if (!atRest(a, b, m)) {
                    continue;
                }
                if (found == what) {
                    return SUMS * a + b;
                }
                found++;
            }
        }
        return what == NONE ? found : NONE;
    }

    // ---- evenings kept ----

    public int keep() {
        if (keptEvenings < 0 || keptEvenings >= kept.length) {
            return NONE;
        }
        kept[keptEvenings].copy(played());
        keptEvenings++;
        return keptEvenings;
    }

    public int hears(int what) {
        if (!within(what, 0, 1)) {
            return NONE;
        }
        int wanted = what == 0 ? 1 : -1;
        int found = 0;
        for (int i = 0; i < keptEvenings && i < kept.length; i++) {
            for (int j = 0; j < i; j++) {
                if (goTogether(kept[i], kept[j]) == wanted) {
                    found++;
                }
            }
        }
        return found;
    }

    public int otherwise(int s) {
        return isSeat(s) && now.crowd.has(s) ? strays(s) : NONE;
    }

    public int suspects(int n) {
        if (!within(n, 1, EVENINGS * SECONDS)) {
            return NONE;
        }
        int found = 0;
        for (int s = 0; s < SEATS; s++) {
            if (now.crowd.has(s) && strays(s) >= n) {
                found |= 1 << s;
            }
        }
        return found;
    }

    // ---- reels, years, check, count ----

    public long funnier(int n, int m, int k, int j, int what) {
        if (!within(n, 1, HOMES) || !within(m, 0, n) || !within(k, 0, m) || !within(j, 0, n - m)
                || !within(what, 0, 1)) {
            return NONE;
        }
        int laughed = k + j;
        long above = 0;
        for (int boxed = k; boxed <= m; boxed++) {
            above += ways(laughed, boxed) * ways(n - laughed, m - boxed);
        }
        long below = ways(n, m);
        long common = divisor(above, below);
        long part = what == 0 ? above : below;
        return common == 0 ? part : part / common;
    }

    public int years(int first, int second, int years, int thousandths) {
        if (!within(first, 0, 10000) || !within(second, 0, 10000) || !within(years, 1, 50)
                || !within(thousandths, 0, 1000)) {
            return NONE;
        }
        int byFirst = added(1);
        int bySecond = added(2);
        int ours = first;
        int theirs = second;
        for (int year = 0; year < years && byFirst != bySecond; year++) {
            int turned = byFirst > bySecond ? theirs * thousandths / 1000 : -(ours * thousandths / 1000);
            ours += turned;
            theirs -= turned;
        }
        return ours;
    }

    public int check(int n) {
        if (!within(n, 0, TAPE) || 12 * n > tapeSize) {
            return NOT_ENOUGH;
        }
        tapeSize = 0;
        Evening evening = played();
        for (int i = 0; i < 3 * n; i++) {
            int t = i / 3;
            if (!evening.hasSecond(t) || numberAt(i) != evening.told(t, i % 3)) {
                return i;
            }
        }
        return n == evening.bill.length ? NONE : 3 * n;
    }

    public int count(int what) {
        if (within(what, 10, 10 + SORTS - 1)) {
            return laws[what - 10].clauses;
        }
        if (within(what, 20, 20 + SEATS - 1)) {
            return now.crowd.sortOf(what - 20);
        }
        if (within(what, 50, 50 + SEATS - 1)) {
            return now.crowd.payerOf(what - 50);
        }
        switch (what) {
            case 0: return now.crowd.wide;
            case 1: return Integer.bitCount(now.crowd.persons);
            case 2: return now.bill.length;
            case 3: return tapeSize;
            case 4: return keptEvenings;
            case 5: return clapPrice;
            case 6: return hissPrice;
            default: return NONE;
        }
    }

    // ---- what may be named ----

    private static boolean within(int value, int least, int greatest) {
        return value >= least && value <= greatest;
    }

    private static boolean isSeat(int s) {
        return within(s, 0, SEATS - 1);
    }

    private static boolean isStick(int stick) {
        return within(stick, 1, 2);
    }

    private boolean isNow(int t) {
        return now.hasSecond(t);
    }

    private int[] planOf(int stick) {
        return stick == 1 ? firstPlan : secondPlan;
    }

    // ---- the tape ----

    private void append(int four) {
        for (int shift = 24; shift >= 0 && tapeSize >= 0 && tapeSize < tape.length; shift -= 8) {
            tape[tapeSize] = (byte) (four >> shift);
            tapeSize++;
        }
    }

    private int numberAt(int place) {
        int number = 0;
        for (int i = 4 * place; i < 4 * place + 4; i++) {
            if (i >= 0 && i < tape.length) {
                number = number << 8 | tape[i] & 255;
            }
        }
        return number;
    }

    // ---- playing ----

    private Evening played() {
        if (stale) {
            play(now, 0);
            stale = false;
        }
        return now;
    }

    /** Starters clap at second 0, whatever they would. */
    private void play(Evening evening, int starters) {
        int clap = 0;
        int hiss = 0;
        evening.sum = 0;
        for (int t = 0; t < evening.bill.length && t < SECONDS; t++) {
            asker.stand(evening, t, clap, hiss);
            clap = bought(evening.crowd, t, CLAP);
            hiss = bought(evening.crowd, t, HISS);
            int free = evening.crowd.unpaid();
            for (int s = 0; s < SEATS; s++) {
                if ((free >> s & 1) == 0) {
                    continue;
                }
                int act = asked(evening.crowd.sortOf(s), s);
                clap |= act == CLAP ? 1 << s : 0;
                hiss |= act == HISS ? 1 << s : 0;
            }
            if (t == 0) {
                clap |= starters;
                hiss &= ~starters;
            }
            evening.put(t, clap, hiss);
        }
    }

    private int bought(Crowd crowd, int t, int act) {
        int set = 0;
        if (t >= 0 && t < SECONDS) {
            set |= firstPlan[t] == act ? crowd.first : 0;
            set |= secondPlan[t] == act ? crowd.second : 0;
        }
        return set;
    }

    private int asked(int sort, int s) {
        return within(sort, 0, SORTS - 1) ? asker.ask(laws[sort], s) : NOTHING;
    }

    private void playUnpaid(int starters) {
        trial.crowd.copy(now.crowd);
        trial.crowd.first = 0;
        trial.crowd.second = 0;
        play(trial, starters);
    }

    private int houseWith(int stick, int set) {
        trial.crowd.copy(now.crowd);
        trial.crowd.hireAll(stick, set);
        play(trial, 0);
        return trial.sum;
    }

    private int added(int stick) {
        return played().sum - houseWith(stick, 0);
    }

    private int followers(int stick) {
        Evening evening = played();
        int last = evening.bill.length - 1;
        if (!evening.hasSecond(last)) {
            return 0;
        }
        int act = planOf(stick)[last];
        return act == NOTHING ? 0 : Integer.bitCount(evening.showing(last, act) & evening.crowd.unpaid());
    }

    /** How many seconds of the evening the plan has for an act. */
    private int planned(int stick, int act) {
        int[] acts = planOf(stick);
        int found = 0;
        for (int t = 0; t < now.bill.length && t < acts.length; t++) {
            if (acts[t] == act) {
                found++;
            }
        }
        return found;
    }

    // ---- sets of persons, the least first ----

    private int bestSet(int stick, int n) {
        int pool = now.crowd.persons & ~now.crowd.paidBy(3 - stick);
        int end = 1 << Integer.bitCount(pool);
        int sign = planned(stick, HISS) > planned(stick, CLAP) ? -1 : 1;
        int best = NONE;
        int greatest = 0;
        int picks = (1 << n) - 1;
        for (int tries = 0; tries < MOST_SETS && picks < end; tries++) {
            int set = spread(picks, pool);
            int worth = sign * houseWith(stick, set);
            if (best == NONE || worth > greatest) {
                best = set;
                greatest = worth;
            }
            picks = nextPicks(picks);
        }
        return best;
    }

    private int leastBeginners(int n) {
        int persons = now.crowd.persons;
        int end = 1 << Integer.bitCount(persons);
        int picks = (1 << n) - 1;
        for (int tries = 0; tries < MOST_SETS && picks < end; tries++) {
            int set = spread(picks, persons);
            playUnpaid(set);
            if (trial.showing(trial.bill.length - 1, CLAP) == persons) {
                return set;
            }
            picks = nextPicks(picks);
        }
        return NONE;
    }

    /** The next greater number with as many bits; behind the empty set, one beyond all sets. */
    private static int nextPicks(int picks) {
        if (picks == 0) {
            return 1 << SEATS;
        }
        int lowest = picks & -picks;
        int carried = picks + lowest;
        int zeros = Integer.bitCount(lowest - 1);
        return carried | (picks ^ carried) >> zeros + 2;
    }

    /** Bit i of the picks stands for the i-th seat of the pool: greater picks give greater sets. */
    private static int spread(int picks, int pool) {
        int set = 0;
        int i = 0;
        for (int s = 0; s < SEATS; s++) {
            if ((pool >> s & 1) == 0) {
                continue;
            }
            if ((picks >> i & 1) != 0) {
                set |= 1 << s;
            }
            i++;
        }
        return set;
    }

    // ---- tenors, critics, suspects, reels ----

    private boolean atRest(int a, int b, int m) {
        int first = sumAt(firstSums, a, b);
        int second = sumAt(secondSums, a, b);
        for (int other = 0; other < m; other++) {
            if (sumAt(firstSums, other, b) > first || sumAt(secondSums, a, other) > second) {
                return false;
            }
        }
        return true;
    }

    private static int sumAt(int[] sums, int a, int b) {
        int place = SUMS * a + b;
        return place >= 0 && place < sums.length ? sums[place] : 0;
    }

    /** 1: the house and what was good go one way; -1: they don't; 0: one of them does not differ. */
    private static int goTogether(Evening one, Evening other) {
        return Integer.compare(one.sum, other.sum)
                * Integer.compare(one.bill.goodForKnowing(), other.bill.goodForKnowing());
    }

    private int strays(int s) {
        int found = 0;
        for (int i = 0; i < keptEvenings && i < kept.length; i++) {
            found += straysIn(kept[i], s);
        }
        return found;
    }

    private int straysIn(Evening evening, int s) {
        if (!evening.crowd.has(s)) {
            return 0;
        }
        int sort = evening.crowd.sortOf(s);
        int found = 0;
        for (int t = 0; t < evening.bill.length; t++) {
            asker.stand(evening, t, evening.showing(t - 1, CLAP), evening.showing(t - 1, HISS));
            if (asked(sort, s) != evening.shown(s, t)) {
                found++;
            }
        }
        return found;
    }

    private static long ways(int of, int take) {
        if (take < 0 || take > of) {
            return 0;
        }
        long found = 1;
        for (int i = 1; i <= take; i++) {
            found = found * (of - take + i) / i;
        }
        return found;
    }

    private static long divisor(long a, long b) {
        long greater = a;
        long rest = b;
        for (int i = 0; i < 200 && rest != 0; i++) {
            long next = greater % rest;
            greater = rest;
            rest = next;
        }
        return greater;
    }

    /** Who sits where and who is paid, a bit a seat, so that the whole house is counted at once. */
    private static final class Crowd {
        int wide = 6;
        int persons;
        int knowing;
        int sortLow;
        int sortHigh;
        int first;
        int second;

        boolean has(int s) {
            return (persons >> s & 1) != 0;
        }

        int sortOf(int s) {
            return has(s) ? sortLow >> s & 1 | (sortHigh >> s & 1) << 1 : NONE;
        }

        int payerOf(int s) {
            return has(s) ? first >> s & 1 | (second >> s & 1) << 1 : NONE;
        }

        int paidBy(int stick) {
            return stick == 1 ? first : second;
        }

        int unpaid() {
            return persons & ~(first | second);
        }

        /** Whoever sat there before: what the seat is paid stays. */
        void sit(int s, int sort, int knows) {
            int bit = 1 << s;
            persons |= bit;
            knowing = knowing & ~bit | knows << s;
            sortLow = sortLow & ~bit | (sort & 1) << s;
            sortHigh = sortHigh & ~bit | (sort >> 1 & 1) << s;
        }

        void leave(int s) {
            persons &= ~(1 << s);
            hire(s, 0);
        }

        void hire(int s, int by) {
            int bit = 1 << s;
            first = first & ~bit | (by == 1 ? bit : 0);
            second = second & ~bit | (by == 2 ? bit : 0);
        }

        void hireAll(int stick, int set) {
            if (stick == 1) {
                first = set;
            } else {
                second = set;
            }
        }

        void copy(Crowd from) {
            wide = from.wide;
            persons = from.persons;
            knowing = from.knowing;
            sortLow = from.sortLow;
            sortHigh = from.sortHigh;
            first = from.first;
            second = from.second;
        }
    }

    /** How many seconds an evening has, and how good they are. */
    private static final class Bill {
        int length = 1;
        final int[] forKnowing = new int[SECONDS];
        final int[] forOthers = new int[SECONDS];

        int goodForKnowing() {
            int all = 0;
            for (int t = 0; t < length && t < SECONDS; t++) {
                all += forKnowing[t];
            }
            return all;
        }

        void copy(Bill from) {
            length = from.length;
            System.arraycopy(from.forKnowing, 0, forKnowing, 0, SECONDS);
            System.arraycopy(from.forOthers, 0, forOthers, 0, SECONDS);
        }
    }

    /** An evening with its crowd, its bill, and who showed what at which second. */
    private static final class Evening {
        final Crowd crowd = new Crowd();
        final Bill bill;
        final int[] clap = new int[SECONDS];
        final int[] hiss = new int[SECONDS];
        int sum;

        Evening(Bill bill) {
            this.bill = bill;
        }

        boolean hasSecond(int t) {
            return t >= 0 && t < bill.length && t < SECONDS;
        }

        void put(int t, int clapping, int hissing) {
            if (!hasSecond(t)) {
                return;
            }
            clap[t] = clapping;
            hiss[t] = hissing;
            sum += clapping(t) - hissing(t);
        }

        /** Who shows an act; nobody ahead of the first second. */
        int showing(int t, int act) {
            if (!hasSecond(t)) {
                return 0;
            }
            return act == CLAP ? clap[t] : hiss[t];
        }

        int clapping(int t) {
            return Integer.bitCount(showing(t, CLAP));
        }

        int hissing(int t) {
            return Integer.bitCount(showing(t, HISS));
        }

        int shown(int s, int t) {
            if ((showing(t, CLAP) >> s & 1) != 0) {
                return CLAP;
            }
            return (showing(t, HISS) >> s & 1) != 0 ? HISS : NOTHING;
        }

        /** All who show anything at any second. */
        int heard() {
            int found = 0;
            for (int t = 0; t < bill.length && t < SECONDS; t++) {
                found |= clap[t] | hiss[t];
            }
            return found;
        }

        /** The numbers that a check is told of a second: itself, who clap, who hiss. */
        int told(int t, int which) {
            if (which == 0) {
                return t;
            }
            return which == 1 ? clapping(t) : hissing(t);
        }

        void copy(Evening from) {
            crowd.copy(from.crowd);
            bill.copy(from.bill);
            System.arraycopy(from.clap, 0, clap, 0, SECONDS);
            System.arraycopy(from.hiss, 0, hiss, 0, SECONDS);
            sum = from.sum;
        }
    }

    /** The clauses of a sort as steps for a stack: each has its kind and, above that, a number. */
    private static final class Law {
        /** No byte of a text makes more than one step. */
        static final int ROOM = 128;
        static final int KIND = 15;
        static final int KIND_BITS = 4;

        static final int ENTER = 0;
        static final int ACT = 1;
        static final int NUMBER = 2;
        static final int LETTER = 3;
        static final int NOT = 4;
        static final int AND = 5;
        static final int OR = 6;
        static final int ADD = 7;
        static final int TAKE = 8;
        static final int TIMES = 9;
        static final int DIVIDE = 10;
        static final int REST = 11;
        static final int LESS = 12;
        static final int GREATER = 13;
        static final int LIKE = 14;

        final int[] steps = new int[ROOM];
        int size;
        int clauses;

        void clear() {
            size = 0;
            clauses = 0;
        }

        int add(int kind, int number) {
            int place = size;
            if (place >= 0 && place < ROOM) {
                steps[place] = number << KIND_BITS | kind;
                size = place + 1;
            }
            return place;
        }

        /** The step at that place goes on behind all that has been added till now. */
        void aimHere(int place) {
            if (place >= 0 && place < ROOM) {
                steps[place] = size << KIND_BITS | steps[place] & KIND;
            }
        }
    }

    /** Asks laws about one second of an evening. */
    private static final class Asker {
        private static final int ROOM = 40;
        /** Two cells below the stack, so that no step can reach under it. */
        private static final int BOTTOM = 2;

        private static final int ALL = (1 << SEATS) - 1;

        final int[] stack = new int[ROOM];
        /** The neighbours of each seat, for the width of rows that was asked about last. */
        final int[] near = new int[SEATS];
        Crowd crowd;
        int wide;
        int second;
        int goodForKnowing;
        int goodForOthers;
        int clapped;
        int hissed;

        Asker(Crowd crowd) {
            this.crowd = crowd;
        }

        /** What was shown in the second before is handed over. */
        void stand(Evening evening, int t, int clap, int hiss) {
            crowd = evening.crowd;
            second = t;
            if (t >= 0 && t < SECONDS) {
                goodForKnowing = evening.bill.forKnowing[t];
                goodForOthers = evening.bill.forOthers[t];
            }
            clapped = clap;
            hissed = hiss;
            if (wide != crowd.wide && crowd.wide > 0) {
                wide = crowd.wide;
                findNeighbours();
            }
        }

        private void findNeighbours() {
            for (int s = 0; s < SEATS; s++) {
                int bit = 1 << s;
                int place = wide > 0 ? s % wide : 0;
                int found = bit << wide | bit >> wide;
                found |= place > 0 ? bit >> 1 : 0;
                found |= place < wide - 1 ? bit << 1 : 0;
                near[s] = found & ALL;
            }
        }

        int ask(Law law, int s) {
            int behind = 0;
            int top = BOTTOM;
            int at = 0;
            for (int i = 0; i < Law.ROOM; i++) {
                if (at < 0 || at >= law.size || at >= Law.ROOM || top < BOTTOM || top >= ROOM) {
                    return NOTHING;
                }
                int kind = law.steps[at] & Law.KIND;
                int number = law.steps[at] >> Law.KIND_BITS;
                at++;
                switch (kind) {
                    case Law.ENTER:
                        behind = number;
                        break;
                    case Law.ACT:
                        top--;
                        if (stack[top] != 0) {
                            return number;
                        }
                        break;
                    case Law.NUMBER:
                        stack[top] = number;
                        top++;
                        break;
                    case Law.LETTER:
                        stack[top] = letter(number, s);
                        top++;
                        break;
                    case Law.NOT:
                        stack[top - 1] = 1 - stack[top - 1];
                        break;
                    case Law.AND:
                    case Law.OR:
                        if (stack[top - 1] != 0 == (kind == Law.OR)) {
                            at = number;
                        } else {
                            top--;
                        }
                        break;
                    default:
                        if (stack[top - 1] == 0 && (kind == Law.DIVIDE || kind == Law.REST)) {
                            // refused: the whole condition of the clause does not hold
                            at = behind;
                            top = BOTTOM;
                        } else {
                            top--;
                            stack[top - 1] = reckon(kind, stack[top - 1], stack[top]);
                        }
                }
            }
            return NOTHING;
        }

        private static int reckon(int kind, int a, int b) {
            switch (kind) {
                case Law.ADD: return a + b;
                case Law.TAKE: return a - b;
                case Law.TIMES: return a * b;
                case Law.DIVIDE: return b == 0 ? 0 : a / b;
                case Law.REST: return b == 0 ? 0 : a % b;
                case Law.LESS: return a < b ? 1 : 0;
                case Law.GREATER: return a > b ? 1 : 0;
                default: return a == b ? 1 : 0;
            }
        }

        private int letter(int sign, int s) {
            if (s < 0 || s >= SEATS) {
                return 0;
            }
            int knows = crowd.knowing >> s & 1;
            switch (sign) {
                case 'g': return knows != 0 ? goodForKnowing : goodForOthers;
                case 'n': return Integer.bitCount(clapped & near[s]);
                case 'z': return Integer.bitCount(hissed & near[s]);
                case 'a': return Integer.bitCount(clapped);
                case 'b': return Integer.bitCount(hissed);
                case 'p': return Integer.bitCount(crowd.persons);
                case 'l': return (clapped >> s & 1) * CLAP + (hissed >> s & 1) * HISS;
                case 't': return second;
                case 's': return s;
                case 'w': return wide > 0 ? s / wide : 0;
                case 'q': return Integer.bitCount((crowd.first | crowd.second) & near[s]);
                default: return knows;
            }
        }
    }

    /** Reads the text of a law off the tape; it stands still at the first fault. */
    private static final class Reader {
        private static final String LETTERS = "gnzabpltswqk";
        private static final int END = -1;
        private static final int MOST_CLAUSES = 12;
        private static final int MOST_OPEN = 6;
        private static final int MOST_DIGITS = 5;

        private static final int CANNOT_STAND = 1;
        private static final int SIXTH_DIGIT = 2;
        private static final int THIRTEENTH_CLAUSE = 4;
        private static final int SEVENTH_OPEN = 5;

        final byte[] text;
        Law law;
        int length;
        int at;
        int open;
        int fault;

        Reader(byte[] text, Law law) {
            this.text = text;
            this.law = law;
        }

        /** How many clauses there are, or the fault and its place. */
        int read(int n, Law into) {
            law = into;
            law.clear();
            length = n;
            at = 0;
            open = 0;
            fault = 0;
            return allClauses() ? law.clauses : -1000 * fault - at;
        }

        private int sign() {
            return at >= 0 && at < length && at < text.length ? text[at] & 255 : END;
        }

        private boolean wrong(int number) {
            fault = number;
            return false;
        }

        private boolean take(int wanted) {
            if (sign() != wanted) {
                return wrong(CANNOT_STAND);
            }
            at++;
            return true;
        }

        private boolean opens(int wanted) {
            if (sign() == wanted && open >= MOST_OPEN) {
                return wrong(SEVENTH_OPEN);
            }
            open++;
            return take(wanted);
        }

        private boolean closes(int wanted) {
            open--;
            return take(wanted);
        }

        private boolean allClauses() {
            boolean fine = clause();
            for (int i = 0; i < TEXT && fine && sign() != END; i++) {
                fine = take(';') && clause();
            }
            return fine;
        }

        private boolean clause() {
            int act = sign() == 'c' ? CLAP : sign() == 'h' ? HISS : NOTHING;
            if (act == NOTHING) {
                return wrong(CANNOT_STAND);
            }
            if (law.clauses >= MOST_CLAUSES) {
                return wrong(THIRTEENTH_CLAUSE);
            }
            at++;
            int enter = law.add(Law.ENTER, 0);
            if (!opens('(') || !condition() || !closes(')')) {
                return false;
            }
            law.add(Law.ACT, act);
            law.aimHere(enter);
            law.clauses++;
            return true;
        }

        private boolean condition() {
            boolean fine = part();
            for (int i = 0; i < TEXT && fine && sign() == '|'; i++) {
                at++;
                int or = law.add(Law.OR, 0);
                fine = part();
                law.aimHere(or);
            }
            return fine;
        }

        private boolean part() {
            boolean fine = piece();
            for (int i = 0; i < TEXT && fine && sign() == '&'; i++) {
                at++;
                int and = law.add(Law.AND, 0);
                fine = piece();
                law.aimHere(and);
            }
            return fine;
        }

        private boolean piece() {
            if (sign() == '(') {
                return opens('(') && condition() && closes(')');
            }
            if (sign() != '!') {
                return comparison();
            }
            if (!opens('!') || !piece()) {
                return false;
            }
            open--;
            law.add(Law.NOT, 0);
            return true;
        }

        private boolean comparison() {
            if (!sum()) {
                return false;
            }
            int kind = comparing(sign());
            if (kind == NONE) {
                return wrong(CANNOT_STAND);
            }
            at++;
            if (!sum()) {
                return false;
            }
            law.add(kind, 0);
            return true;
        }

        private boolean sum() {
            boolean fine = term();
            for (int i = 0; i < TEXT && fine && adding(sign()) != NONE; i++) {
                int kind = adding(sign());
                at++;
                fine = term();
                law.add(kind, 0);
            }
            return fine;
        }

        private boolean term() {
            boolean fine = factor();
            for (int i = 0; i < TEXT && fine && timing(sign()) != NONE; i++) {
                int kind = timing(sign());
                at++;
                fine = factor();
                law.add(kind, 0);
            }
            return fine;
        }

        private boolean factor() {
            int sign = sign();
            if (sign == '[') {
                return opens('[') && sum() && closes(']');
            }
            if (isDigit(sign)) {
                return number();
            }
            if (sign == END || LETTERS.indexOf((char) sign) < 0) {
                return wrong(CANNOT_STAND);
            }
            at++;
            law.add(Law.LETTER, sign);
            return true;
        }

        private boolean number() {
            int value = 0;
            for (int i = 0; i < MOST_DIGITS && isDigit(sign()); i++) {
                value = 10 * value + sign() - '0';
                at++;
            }
            if (isDigit(sign())) {
                return wrong(SIXTH_DIGIT);
            }
            law.add(Law.NUMBER, value);
            return true;
        }

        private static boolean isDigit(int sign) {
            return sign >= '0' && sign <= '9';
        }

        private static int comparing(int sign) {
            switch (sign) {
                case '<': return Law.LESS;
                case '>': return Law.GREATER;
                case '=': return Law.LIKE;
                default: return NONE;
            }
        }

        private static int adding(int sign) {
            switch (sign) {
                case '+': return Law.ADD;
                case '-': return Law.TAKE;
                default: return NONE;
            }
        }

        private static int timing(int sign) {
            switch (sign) {
                case '*': return Law.TIMES;
                case '/': return Law.DIVIDE;
                case '%': return Law.REST;
                default: return NONE;
            }
        }
    }
}
