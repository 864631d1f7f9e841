import java.util.NoSuchElementException;

/** A clerk strikes WORDS in THE MINUTES of a speech by RULES, till nothing is left to strike. */
public final class StrikeWhatCancels {
    public static final int NONE = -1;

    private static final int NOT = -2;
    private static final int TOO_MANY = -3;
    private static final int KINDS = 8;
    private static final int HEAVIEST = 9;
    private static final int MOST_RULES = 12;
    private static final int TOLD_STRIKES = 8;
    private static final int UNDONE = 64;

    private final Rules rules = new Rules();
    private final Reader reader = new Reader();
    private final Told told = new Told();
    private final Desk desk = new Desk();
    private final Desk[] shelf = {new Desk(), new Desk(), new Desk()};
    // THE MINUTES ahead of the latest STRIKES, round and round.
    private final long[] were = new long[UNDONE];
    private int nextUndo = 0;
    private int undos = 0;
    // What follows is made when it is first asked for: most objects never need it.
    private Net first = null;
    private Net second = null;
    private Overlaps laps = null;
    private Aside aside = null;
    private Still quiet = null;
    private Balance balance = null;
    private final Finals[] finals = new Finals[3];

    public StrikeWhatCancels() {
    }

    // ---- the book

    public int sign(int v) {
        return reader.addFour(v) ? reader.size : NONE;
    }

    public boolean end(int n) {
        return reader.cut(n);
    }

    public int book() {
        int lines = reader.lines(rules.count);
        reader.cut(0);
        if (lines > 0) {
            reader.handOver(rules, desk);
        }
        return lines;
    }

    public int speech() {
        int n = reader.size;
        int wrong = reader.firstNoWord();
        long s = reader.saying();
        reader.cut(0);
        return wrong < n ? -1 - wrong : speakOf(s);
    }

    public int speak(long code) {
        long s = Saying.read(code);
        return s < 0 ? NONE : speakOf(s);
    }

    private int speakOf(long s) {
        desk.spoken = s;
        desk.left = s;
        undos = 0;
        return Saying.size(s);
    }

    public long rule(int i, int what) throws NoSuchElementException {
        if (i < 0 || i >= rules.count || what < 0 || what > 2) {
            throw new NoSuchElementException();
        }
        if (what == 2) {
            return rules.lessBy(i, desk);
        }
        return Saying.code(what == 0 ? rules.leftOf(i) : rules.rightOf(i));
    }

    public int weigh(int word, int v) {
        if (word < 0 || word >= KINDS || v < 1 || v > HEAVIEST) {
            return NONE;
        }
        int was = desk.weightOf(word);
        desk.setWeight(word, v);
        return was;
    }

    public int sheet(int kind, int n, int f, int step) {
        if (kind < 0 || kind > 3 || n > KINDS) {
            return NONE;
        }
        if (kind < 3 && n < 0) {
            return NOT;
        }
        int entries = kind == 3 ? 0 : n;
        int sum = 0;
        for (int w = 0; w < KINDS; w++) {
            int v = w < entries ? Math.max(1, Math.min(HEAVIEST, entry(kind, f + w * step))) : 1;
            desk.setWeight(w, v);
            sum += v;
        }
        return kind == 3 ? TOO_MANY : sum;
    }

    private static int entry(int kind, int v) {
        if (kind == 0) {
            return (byte) v;
        }
        return kind == 1 ? (short) v : v;
    }

    public int wide(int v) {
        if (v < 1 || v > KINDS) {
            return NONE;
        }
        int was = desk.kinds;
        desk.kinds = v;
        return was;
    }

    public boolean swap(int i, int j) {
        return rules.exchange(i, j);
    }

    // ---- striking

    public int strike(int clerk) {
        if (clerk < 0 || clerk > 3) {
            return NONE;
        }
        int next = strikeOnce(clerk);
        if (next < 0) {
            return NOT;
        }
        told.clear();
        told.add(Rules.placeOf(next));
        told.add(Saying.code(desk.left));
        return Rules.ruleOf(next);
    }

    /** The STRIKE that a CLERK made in THE MINUTES, or NONE. */
    private int strikeOnce(int clerk) {
        int next = clerk == 3 ? drawn() : rules.next(clerk, desk.left);
        if (next >= 0) {
            were[nextUndo & UNDONE - 1] = desk.left;
            nextUndo = nextUndo + 1 & UNDONE - 1;
            undos = Math.min(UNDONE, undos + 1);
            desk.left = rules.struck(desk.left, next);
        }
        return next;
    }

    private int drawn() {
        int n = rules.strikesIn(desk.left);
        if (n <= 0) {
            return NONE;
        }
        desk.draw = desk.draw * 1103515245 + 12345;
        return rules.numbered(desk.left, (desk.draw >>> 16) % n);
    }

    public int run(int clerk, int n) {
        if (clerk < 0 || clerk > 3 || n < 0 || n > 500) {
            return NONE;
        }
        told.lay(1 + rules.count);
        int often = 0;
        for (int k = 0; k < n; k++) {
            int next = strikeOnce(clerk);
            if (next < 0) {
                break;
            }
            told.raise(1 + Rules.ruleOf(next));
            often++;
        }
        told.put(0, Saying.code(desk.left));
        return often;
    }

    public int undo() {
        if (undos <= 0) {
            return NONE;
        }
        nextUndo = nextUndo - 1 & UNDONE - 1;
        undos--;
        desk.left = were[nextUndo & UNDONE - 1];
        return undos;
    }

    public long anew() {
        desk.left = desk.spoken;
        undos = 0;
        return Saying.code(desk.left);
    }

    public int can() {
        told.lay(rules.count);
        int n = 0;
        for (int i = 0; i < rules.count; i++) {
            int byIt = rules.strikesBy(i, desk.left);
            told.put(i, byIt);
            n += byIt;
        }
        return n;
    }

    public int judge(int n, int a, int b) {
        if (n < 0 || n > 7) {
            return NONE;
        }
        long s = desk.spoken;
        int wrong = NOT;
        for (int k = 0; k < n && wrong == NOT; k++) {
            int told8 = k < 4 ? a >>> 8 * k : b >>> 8 * (k - 4);
            int rule = told8 & 15;
            int place = told8 >>> 4 & 15;
            if (rules.fits(rule, s, place)) {
                s = rules.struck(s, Rules.strikeBy(rule, place));
            } else {
                wrong = k;
            }
        }
        told.clear();
        told.add(Saying.code(s));
        return wrong;
    }

    // ---- all that can come of it

    public int net() {
        Net net = first();
        if (!net.search(rules, desk.left, NONE)) {
            return TOO_MANY;
        }
        net.gather(rules, false);
        told.clear();
        told.add(net.ends());
        told.add(net.mostTillDone());
        told.add(net.fewestTillDone());
        return net.size;
    }

    public long done(int k) {
        if (k < 0) {
            return NONE;
        }
        Net net = first();
        if (!net.search(rules, desk.left, NONE)) {
            return TOO_MANY;
        }
        long s = net.doneNumber(k);
        return s < 0 ? NOT : Saying.code(s);
    }

    public int way(long code) {
        long goal = Saying.read(code);
        if (goal < 0) {
            return NONE;
        }
        Net net = first();
        if (!net.search(rules, desk.left, NONE)) {
            return TOO_MANY;
        }
        int at = net.find(goal);
        if (at < 0) {
            return NOT;
        }
        int n = net.farOf(at);
        told.lay(2 * Math.min(TOLD_STRIKES, n));
        for (int k = n - 1; k >= 0; k--) {
            told.put(2 * k, Rules.ruleOf(net.howOf(at)));
            told.put(2 * k + 1, Rules.placeOf(net.howOf(at)));
            at = net.aheadOf(at);
        }
        return n;
    }

    public long ways(long code) {
        long goal = Saying.read(code);
        if (goal < 0) {
            return NONE;
        }
        Net net = first();
        if (!net.search(rules, desk.left, NONE)) {
            return TOO_MANY;
        }
        int at = net.find(goal);
        if (at < 0) {
            return NOT;
        }
        net.gather(rules, true);
        told.clear();
        told.add(net.waysTillDone());
        return net.tallyOf(at);
    }

    public int clerks() {
        told.lay(6);
        for (int clerk = 0; clerk < 3; clerk++) {
            told.put(clerk, Saying.code(rules.leave(clerk, desk.left)));
            told.put(3 + clerk, rules.strikes);
        }
        long a = told.at(0);
        long b = told.at(1);
        long c = told.at(2);
        int unlike = a == b ? 1 : 2;
        return c == a || c == b ? unlike : unlike + 1;
    }

    public int meet(long one, long other) {
        long a = Saying.read(one);
        long b = Saying.read(other);
        if (a < 0 || b < 0) {
            return NONE;
        }
        long both = bothLeadTo(a, b, NONE);
        if (both == TOO_MANY) {
            return TOO_MANY;
        }
        told.clear();
        if (both < 0) {
            return 0;
        }
        told.add(Saying.code(both));
        return 1;
    }

    /** The SAYING that both lead to (one RULE left out) which is AHEAD of all such; NONE, or TOO_MANY. */
    private long bothLeadTo(long a, long b, int without) {
        Net one = first();
        Net other = second();
        if (!one.search(rules, a, without) || !other.search(rules, b, without)) {
            return TOO_MANY;
        }
        return one.leastIn(other);
    }

    // ---- overlaps

    public int overlaps() {
        Overlaps all = laps();
        all.begin(rules);
        int number = 0;
        int apart = 0;
        int firstApart = NONE;
        while (number < Overlaps.MOST && all.advance()) {
            long both = bothLeadTo(all.byOne, all.byOther, NONE);
            if (both == TOO_MANY) {
                return TOO_MANY;
            }
            if (both < 0) {
                firstApart = apart == 0 ? number : firstApart;
                apart++;
            }
            number++;
        }
        told.clear();
        told.add(apart);
        told.add(firstApart);
        return number;
    }

    public int overlap(int k) {
        if (k < 0) {
            return NONE;
        }
        Overlaps all = laps();
        all.begin(rules);
        if (!all.goTo(k)) {
            return NOT;
        }
        long both = bothLeadTo(all.byOne, all.byOther, NONE);
        if (both == TOO_MANY) {
            return TOO_MANY;
        }
        told.clear();
        told.add(all.one);
        told.add(all.other);
        told.add(all.shared);
        told.add(Saying.code(all.whole));
        told.add(Saying.code(all.byOne));
        told.add(Saying.code(all.byOther));
        return both < 0 ? 0 : 1;
    }

    public int idle() {
        int bits = 0;
        for (int i = 0; i < rules.count; i++) {
            long both = bothLeadTo(rules.leftOf(i), rules.rightOf(i), i);
            if (both == TOO_MANY) {
                return TOO_MANY;
            }
            bits |= both < 0 ? 0 : 1 << i;
        }
        return bits;
    }

    // ---- weights

    public int lessens() {
        int least = NONE;
        int by = 0;
        for (int i = 0; i < rules.count; i++) {
            int d = rules.lessBy(i, desk);
            if (least == NONE || d < by) {
                least = i;
                by = d;
            }
        }
        told.clear();
        told.add(least);
        told.add(by);
        return least == NONE || by > 0 ? 1 : 0;
    }

    public int weights() {
        if (balance == null) {
            balance = new Balance();
        }
        boolean is = balance.solve(rules);
        told.clear();
        for (int w = 0; is && w < KINDS; w++) {
            told.add(balance.weightOf(w));
        }
        return is ? 1 : 0;
    }

    // ---- rules added (aside)

    public int complete(int n) {
        if (n < 0 || n > MOST_RULES) {
            return NONE;
        }
        Aside more = aside();
        more.extend(rules, n);
        int added = Math.min(n, more.added);
        told.clear();
        for (int k = 0; k < added; k++) {
            told.add(Saying.code(more.all.leftOf(rules.count + k)));
            told.add(Saying.code(more.all.rightOf(rules.count + k)));
        }
        return more.done && more.added <= n ? added : NOT;
    }

    public int same(long one, long other) {
        long a = Saying.read(one);
        long b = Saying.read(other);
        if (a < 0 || b < 0) {
            return NONE;
        }
        Aside more = aside();
        more.extend(rules, MOST_RULES);
        long leftOfOne = more.all.leave(0, a);
        long leftOfOther = more.all.leave(0, b);
        told.clear();
        told.add(Saying.code(leftOfOne));
        told.add(Saying.code(leftOfOther));
        if (leftOfOne == leftOfOther) {
            return 1;
        }
        return more.done ? 0 : NOT;
    }

    public int between(long one, long other, int most) {
        long a = Saying.read(one);
        long b = Saying.read(other);
        if (most < 0 || most > 8 || a < 0 || b < 0 || Saying.size(a) > most || Saying.size(b) > most) {
            return NONE;
        }
        if (a == b) {
            told.clear();
            return 0;
        }
        Net net = first();
        int at = net.spread(rules, a, b, most);
        if (at < 0) {
            return at;
        }
        int n = net.farOf(at) + 1;
        told.lay(Math.min(TOLD_STRIKES, n));
        told.put(n - 1, other);
        for (int k = n - 2; k >= 0; k--) {
            told.put(k, Saying.code(net.saidAt(at)));
            at = net.aheadOf(at);
        }
        return n;
    }

    // ---- speeches back from minutes

    public int come(int clerk, int n, long code) {
        long goal = Saying.read(code);
        int no = goal < 0 ? NONE : refusal(clerk, n);
        if (no < 0) {
            return no;
        }
        Finals all = finalsOf(clerk, n);
        int many = all.broughtTo(n, goal);
        told.clear();
        if (many > 0) {
            told.add(Saying.code(all.found));
        }
        return many;
    }

    public int shortest(int clerk, long code) {
        long goal = Saying.read(code);
        if (goal < 0 || clerk < 0 || clerk > 2) {
            return NONE;
        }
        for (int n = Saying.size(goal) + 1; n <= Saying.MOST && Finals.many(desk.kinds, n) <= Finals.MANY; n++) {
            Finals all = finalsOf(clerk, n);
            if (all.broughtTo(n, goal) > 0) {
                told.clear();
                told.add(Saying.code(all.found));
                return n;
            }
        }
        return NOT;
    }

    public int longest(int clerk, int n) {
        int no = refusal(clerk, n);
        if (no < 0) {
            return no;
        }
        Finals all = finalsOf(clerk, n);
        long most = all.mostStrikes(n);
        told.clear();
        told.add(Saying.code(all.found));
        told.add(all.often);
        return (int) most;
    }

    public long still(int n) {
        if (n < 0 || n > 20) {
            return NONE;
        }
        if (quiet == null) {
            quiet = new Still();
        }
        return quiet.number(rules, n, desk.kinds);
    }

    public int sorts(int clerk, int n) {
        int no = refusal(clerk, n);
        if (no < 0) {
            return no;
        }
        Finals all = finalsOf(clerk, n);
        int unlike = all.unlike(n);
        told.clear();
        told.add(Saying.code(all.found));
        told.add(all.often);
        return unlike;
    }

    public int quarrels(int n) {
        int no = refusal(0, n);
        if (no < 0) {
            return no;
        }
        Finals all = finalsOf(0, n);
        int unlike = all.unlikeThose(finalsOf(1, n), n);
        told.clear();
        if (unlike > 0) {
            told.add(Saying.code(all.found));
        }
        return unlike;
    }

    /** NONE, TOO_MANY, or 0 where a CLERK can be asked about all SAYINGS of n WORDS. */
    private int refusal(int clerk, int n) {
        if (clerk < 0 || clerk > 2 || n < 0 || n > Saying.MOST) {
            return NONE;
        }
        return Finals.many(desk.kinds, n) > Finals.MANY ? TOO_MANY : 0;
    }

    // ---- kept

    public int seed(int v) {
        int was = desk.draw;
        desk.draw = v;
        return was;
    }

    public boolean keep(int i) {
        if (i < 0 || i >= shelf.length || shelf[i] == null) {
            return false;
        }
        shelf[i].take(desk);
        shelf[i].held = true;
        return true;
    }

    public boolean again(int i) {
        if (i < 0 || i >= shelf.length || shelf[i] == null || !shelf[i].held) {
            return false;
        }
        desk.take(shelf[i]);
        undos = 0;
        return true;
    }

    public int count(int what) {
        switch (what) {
            case 0:
                return rules.count;
            case 1:
                return Saying.size(desk.spoken);
            case 2:
                return Saying.size(desk.left);
            case 3:
                return undos;
            case 4:
                return desk.kinds;
            case 5:
                return told.size;
            case 6:
                return reader.size;
            default:
                return NONE;
        }
    }

    public long minutes() {
        return Saying.code(desk.left);
    }

    public long row(int i) throws NoSuchElementException {
        if (i < 0 || i >= told.size) {
            throw new NoSuchElementException();
        }
        return told.at(i);
    }

    // ---- what is made when it is first asked for

    private Net first() {
        if (first == null) {
            first = new Net();
        }
        return first;
    }

    private Net second() {
        if (second == null) {
            second = new Net();
        }
        return second;
    }

    private Overlaps laps() {
        if (laps == null) {
            laps = new Overlaps();
        }
        return laps;
    }

    private Aside aside() {
        if (aside == null) {
            aside = new Aside();
        }
        return aside;
    }

    private Finals finalsOf(int clerk, int n) {
        int c = clerk >= 0 && clerk < finals.length ? clerk : 0;
        if (finals[c] == null) {
            finals[c] = new Finals(c);
        }
        finals[c].upTo(rules, desk.kinds, n);
        return finals[c];
    }

    /**
     * SAYINGS as numbers: how many WORDS from bit 56 on, below them four bits a WORD (1 .. 8), the
     * last WORD lowest. So the one that is AHEAD is the less.
     */
    private static final class Saying {
        static final int MOST = 14;
        private static final long WORDS = (1L << 56) - 1;

        static int size(long s) {
            return (int) (s >>> 56);
        }

        static long of(int n, long words) {
            return (long) n << 56 | words;
        }

        static long wordsOf(long s) {
            return s & WORDS;
        }

        static int word(long s, int place) {
            return (int) (s >>> 4 * ((int) (s >>> 56) - 1 - place)) & 15;
        }

        /** n WORDS of a SAYING from a place on, which stand there. */
        static long part(long s, int place, int n) {
            int behind = (int) (s >>> 56) - place - n;
            return (long) n << 56 | s >>> 4 * behind & (1L << 4 * n) - 1;
        }

        /** Another SAYING put for n WORDS from a place on, which stand there. */
        static long put(long s, int place, int n, long other) {
            int size = (int) (s >>> 56);
            int more = (int) (other >>> 56);
            int behind = size - place - n;
            long words = (s & WORDS) >>> 4 * (behind + n) << 4 * more | other & WORDS;
            return (long) (size - n + more) << 56 | words << 4 * behind | s & (1L << 4 * behind) - 1;
        }

        /** Whether another SAYING stands in this one at a place. */
        static boolean has(long s, int place, long other) {
            int n = (int) (other >>> 56);
            int behind = (int) (s >>> 56) - place - n;
            return place >= 0 && behind >= 0 && ((s >>> 4 * behind ^ other) & (1L << 4 * n) - 1) == 0;
        }

        /** The SAYING of a CODE, NONE if no SAYING has it. */
        static long read(long code) {
            long rest = code;
            long words = 0;
            int n = 0;
            while (rest > 0 && n < MOST && rest % 9 != 0) {
                words |= rest % 9 << 4 * n;
                rest /= 9;
                n++;
            }
            return rest == 0 ? of(n, words) : NONE;
        }

        static long code(long s) {
            long code = 0;
            int n = size(s);
            for (int p = 0; p < n; p++) {
                code = code * 9 + word(s, p);
            }
            return code;
        }

        /** The first n numbers of a row, the least first. */
        static void order(long[] row, int n) {
            int top = Math.min(n, row.length);
            for (int gap = top / 2; gap > 0; gap = gap == 2 ? 1 : gap * 5 / 11) {
                for (int k = gap; k < top; k++) {
                    long s = row[k];
                    int at = k;
                    while (at >= gap && row[at - gap] > s) {
                        row[at] = row[at - gap];
                        at -= gap;
                    }
                    row[at] = s;
                }
            }
        }
    }

    /** RULES in their order. A STRIKE is told as one number: RULE, place in the low four bits. */
    private static final class Rules {
        static final int ROOM = 2 * MOST_RULES;
        static final int MOST_WORDS = 5;
        // So many STRIKES are made one by one: few minutes need more.
        private static final int STEPS = 256;
        private final long[] left = new long[ROOM];
        private final long[] right = new long[ROOM];
        // Of each WORD the RULES (bits) of which LEFT begins with it.
        private final int[] heads = new int[KINDS + 1];
        int count = 0;
        int version = 0;
        long strikes = 0;
        private Leaps leaps = null;

        static int strikeBy(int rule, int place) {
            return rule << 4 | place;
        }

        static int ruleOf(int strike) {
            return strike >> 4;
        }

        static int placeOf(int strike) {
            return strike & 15;
        }

        long leftOf(int i) {
            return i >= 0 && i < count && i < left.length ? left[i] : 0;
        }

        long rightOf(int i) {
            return i >= 0 && i < count && i < right.length ? right[i] : 0;
        }

        void clear() {
            count = 0;
            remark();
        }

        void add(long l, long r) {
            if (count < left.length && count < right.length) {
                left[count] = l;
                right[count] = r;
                count++;
                remark();
            }
        }

        void addAll(Rules others) {
            for (int i = 0; i < others.count; i++) {
                add(others.leftOf(i), others.rightOf(i));
            }
        }

        boolean exchange(int i, int j) {
            if (i < 0 || j < 0 || i >= count || j >= count || i == j) {
                return false;
            }
            long l = leftOf(i);
            long r = rightOf(i);
            left[i] = leftOf(j);
            right[i] = rightOf(j);
            left[j] = l;
            right[j] = r;
            remark();
            return true;
        }

        private void remark() {
            version++;
            for (int w = 0; w < heads.length; w++) {
                heads[w] = 0;
            }
            for (int i = 0; i < count; i++) {
                int w = Saying.word(leftOf(i), 0);
                if (w < heads.length) {
                    heads[w] |= 1 << i;
                }
            }
        }

        /** By how much WEIGHTS are less behind a RULE. */
        int lessBy(int i, Desk desk) {
            return desk.weightOfAll(leftOf(i)) - desk.weightOfAll(rightOf(i));
        }

        boolean fits(int i, long s, int place) {
            return i >= 0 && i < count && i < left.length && Saying.has(s, place, left[i]);
        }

        long struck(long s, int strike) {
            int i = ruleOf(strike);
            return Saying.put(s, placeOf(strike), Saying.size(leftOf(i)), rightOf(i));
        }

        /** The first RULE that can strike at a place, or NONE. */
        private int firstAt(long s, int place) {
            int w = Saying.word(s, place);
            int some = w < heads.length ? heads[w] : 0;
            for (int i = 0; i < count && some >>> i != 0; i++) {
                if ((some >>> i & 1) != 0 && i < left.length && Saying.has(s, place, left[i])) {
                    return i;
                }
            }
            return NONE;
        }

        /** The next STRIKE of a CLERK 0 .. 2, or NONE. */
        int next(int clerk, long s) {
            if (clerk == 2) {
                return nextByRules(s);
            }
            int n = Saying.size(s);
            for (int k = 0; k < n; k++) {
                int place = clerk == 0 ? k : n - 1 - k;
                int i = firstAt(s, place);
                if (i >= 0) {
                    return strikeBy(i, place);
                }
            }
            return NONE;
        }

        private int nextByRules(long s) {
            for (int i = 0; i < count && i < left.length; i++) {
                int places = Saying.size(s) - Saying.size(left[i]);
                for (int place = 0; place <= places; place++) {
                    if (Saying.has(s, place, left[i])) {
                        return strikeBy(i, place);
                    }
                }
            }
            return NONE;
        }

        /** What a CLERK 0 .. 2 leaves of a SAYING; 'strikes' tells how many STRIKES he made. */
        long leave(int clerk, long s) {
            long rest = s;
            int next = next(clerk, rest);
            int n = 0;
            while (next >= 0 && n < STEPS) {
                rest = struck(rest, next);
                n++;
                next = next(clerk, rest);
            }
            strikes = n;
            if (next >= 0) {
                rest = leaps().leave(this, clerk, rest);
                strikes += leaps().strikes;
            }
            return rest;
        }

        Leaps leaps() {
            if (leaps == null) {
                leaps = new Leaps();
            }
            return leaps;
        }

        /** How many WORDS a RULE leaves as they are at the beginning of its LEFT. */
        int keeps(int i) {
            long l = leftOf(i);
            long r = rightOf(i);
            int n = 0;
            while (n < Saying.size(l) && n < Saying.size(r) && Saying.word(l, n) == Saying.word(r, n)) {
                n++;
            }
            return n;
        }

        /** The place from which on WORDS ahead of place n matter to what a CLERK makes of those behind. */
        int viewFrom(int clerk, long s, int n) {
            int from = n;
            int blocked = 0;
            for (int place = n - 1; place >= 0 && place > n - MOST_WORDS; place--) {
                for (int i = 0; i < count && i < left.length; i++) {
                    int size = Saying.size(left[i]);
                    int ahead = Math.min(n - place, size);
                    boolean fits = Saying.has(s, place, Saying.part(left[i], 0, ahead));
                    if (fits && ahead < size) {
                        from = Math.max(place, blocked);
                    } else if (fits && clerk == 1) {
                        // CLERK 1 strikes here before he looks at a lesser place.
                        blocked = Math.max(place, blocked);
                    }
                }
            }
            return from;
        }

        /** The first RULE that can strike at a place ahead of one, 'count' for none. */
        int firstAhead(long s, int end) {
            for (int i = 0; i < count && i < left.length; i++) {
                for (int place = 0; place < end; place++) {
                    if (Saying.has(s, place, left[i])) {
                        return i;
                    }
                }
            }
            return count;
        }

        int strikesIn(long s) {
            int n = 0;
            for (int i = 0; i < count; i++) {
                n += strikesBy(i, s);
            }
            return n;
        }

        int strikesBy(int i, long s) {
            int n = 0;
            for (int place = 0; place < Saying.size(s); place++) {
                n += fits(i, s, place) ? 1 : 0;
            }
            return n;
        }

        /** STRIKE number k of all, by places, then by RULES. */
        int numbered(long s, int k) {
            int n = 0;
            for (int place = 0; place < Saying.size(s); place++) {
                for (int i = 0; i < count; i++) {
                    if (fits(i, s, place)) {
                        if (n == k) {
                            return strikeBy(i, place);
                        }
                        n++;
                    }
                }
            }
            return NONE;
        }
    }

    /**
     * What a CLERK makes of the last WORDS of a SAYING as long as he leaves those ahead as they are.
     * It is kept, so that he leaps where he would do it once more: RULES that count down need more
     * STRIKES than could be made one by one.
     */
    private static final class Leaps {
        private static final int ROOM = 16384;
        private static final int NEAR = 4;
        private static final int WORTH = 4;
        // Each STRIKE makes a SAYING that has not been there, and there are less than 2^43 of them.
        private static final long MOST = 1L << 44;
        private final long[] asked = new long[ROOM];
        private final long[] ending = new long[ROOM];
        private final long[] strikesOf = new long[ROOM];
        // By n 0 .. 'watched', as long as the first n WORDS stay the same: what is asked of those behind
        // them, and how many STRIKES there were when it was.
        private final long[] key = new long[Saying.MOST];
        private final long[] since = new long[Saying.MOST];
        private int watched = NONE;
        private int version = NONE;
        private long rest = 0;
        long strikes = 0;

        long leave(Rules rules, int clerk, long s) {
            if (version != rules.version) {
                begin(rules);
            }
            rest = s;
            strikes = 0;
            watched = NONE;
            for (long k = 0; k < MOST; k++) {
                int next = rules.next(clerk, rest);
                int same = next < 0 ? NONE : Rules.placeOf(next) + rules.keeps(Rules.ruleOf(next));
                remember(same);
                if (next < 0) {
                    break;
                }
                if (!leapt(rules, clerk, same)) {
                    rest = rules.struck(rest, next);
                    strikes++;
                }
            }
            return rest;
        }

        private void begin(Rules rules) {
            version = rules.version;
            for (int k = 0; k < ROOM && k < asked.length; k++) {
                asked[k] = 0;
            }
        }

        /** Where more WORDS ahead were watched than stay the same now, what came of those behind is kept. */
        private void remember(int same) {
            for (int n = watched; n > same && n >= 0 && n < key.length; n--) {
                int at = slotOf(key[n]);
                if (strikes - since[n] >= WORTH && at >= 0 && at < ROOM) {
                    asked[at] = key[n];
                    ending[at] = Saying.part(rest, n, Saying.size(rest) - n);
                    strikesOf[at] = strikes - since[n];
                }
            }
            watched = Math.min(watched, same);
        }

        /** Makes all STRIKES that are known to come; else more of the WORDS ahead are watched from now on. */
        private boolean leapt(Rules rules, int clerk, int same) {
            int size = Saying.size(rest);
            for (int n = watched + 1; n <= same && n < size && n >= 0 && n < key.length; n++) {
                int from = rules.viewFrom(clerk, rest, n);
                // To CLERK 2 a RULE that can strike further ahead matters, too.
                long who = clerk == 2 ? 2 + rules.firstAhead(rest, from) : clerk;
                long words = Saying.wordsOf(Saying.part(rest, from, size - from));
                long asks = words | (long) (n - from) << 56 | who << 59;
                int at = slotOf(asks);
                if (at >= 0 && at < ROOM && asked[at] == asks) {
                    rest = Saying.put(rest, n, size - n, ending[at]);
                    strikes += strikesOf[at];
                    return true;
                }
                key[n] = asks;
                since[n] = strikes;
                watched = n;
            }
            return false;
        }

        /** The slot in which it is asked, or else that one near it which spares the fewest STRIKES. */
        private int slotOf(long asks) {
            int from = (int) ((asks ^ asks >>> 31) * 0x9E3779B97F4A7C15L >>> 50);
            int least = NONE;
            long fewest = 0;
            for (int k = 0; k < NEAR; k++) {
                int at = from + k & ROOM - 1;
                if (at < 0 || at >= asked.length || at >= strikesOf.length || asked[at] == asks) {
                    return at;
                }
                long spares = asked[at] == 0 ? 0 : strikesOf[at];
                if (least < 0 || spares < fewest) {
                    least = at;
                    fewest = spares;
                }
            }
            return least;
        }
    }

    /** THE TEXT, and what its LINES tell: it is held back till all of them stand. */
    private static final class Reader {
        private static final int ROOM = 80;
        private static final int MOST_SIGNS = 76;
        private static final int START = 0;
        private static final int LEFT = 1;
        private static final int RIGHT = 2;
        private static final int EQUALS = 3;
        private static final int WEIGHED = 4;
        private final int[] signs = new int[ROOM];
        int size = 0;
        private final Rules read = new Rules();
        private final int[] weight = new int[KINDS];
        private int state = START;
        private int room = 0;
        private int lines = 0;
        private long left = 0;
        private long right = 0;

        boolean addFour(int v) {
            if (size + 4 > ROOM) {
                return false;
            }
            for (int shift = 24; shift >= 0 && size >= 0 && size < signs.length; shift -= 8) {
                signs[size] = v >>> shift & 255;
                size++;
            }
            return true;
        }

        boolean cut(int n) {
            if (n < 0 || n > size) {
                return false;
            }
            size = n;
            return true;
        }

        private int at(int p) {
            return p >= 0 && p < size && p < signs.length ? signs[p] : 0;
        }

        /** Which WORD a sign is (1 .. 8), 0 for none. */
        private static int word(int sign) {
            return sign >= 'a' && sign <= 'h' ? sign - 'a' + 1 : 0;
        }

        /** The place of the first sign that is no WORD of a SAYING: the text's end, if there is none. */
        int firstNoWord() {
            int p = 0;
            while (p < size && p < Saying.MOST && word(at(p)) > 0) {
                p++;
            }
            return p;
        }

        /** The SAYING of the WORDS ahead of that place. */
        long saying() {
            int n = firstNoWord();
            long words = 0;
            for (int p = 0; p < n; p++) {
                words = words << 4 | word(at(p));
            }
            return Saying.of(n, words);
        }

        /** How many LINES; -1 - p if the sign at p can't stand there. */
        int lines(int rulesThere) {
            begin(rulesThere);
            for (int p = 0; p < size; p++) {
                if (p == MOST_SIGNS || !takes(at(p))) {
                    return -1 - p;
                }
            }
            if (size > 0 && !endsLine()) {
                return -1 - size;
            }
            return lines;
        }

        private void begin(int rulesThere) {
            read.clear();
            for (int w = 0; w < weight.length; w++) {
                weight[w] = 0;
            }
            room = MOST_RULES - rulesThere;
            lines = 0;
            state = START;
        }

        private boolean takes(int sign) {
            int word = word(sign);
            switch (state) {
                case START:
                    left = Saying.of(1, word);
                    right = 0;
                    state = LEFT;
                    return word > 0;
                case LEFT:
                    return takesInLeft(sign, word);
                case RIGHT:
                    return word > 0 ? takesInRight(word) : endsAt(sign);
                case EQUALS:
                    return takesWeight(sign - '0');
                default:
                    return endsAt(sign);
            }
        }

        private boolean takesInLeft(int sign, int word) {
            if (word > 0 && Saying.size(left) < Rules.MOST_WORDS) {
                left = Saying.put(left, Saying.size(left), 0, Saying.of(1, word));
                return true;
            }
            if (sign == '>' && read.count < room) {
                state = RIGHT;
                return true;
            }
            if (sign == '=' && Saying.size(left) == 1) {
                state = EQUALS;
                return true;
            }
            return false;
        }

        private boolean takesInRight(int word) {
            if (Saying.size(right) >= Rules.MOST_WORDS) {
                return false;
            }
            right = Saying.put(right, Saying.size(right), 0, Saying.of(1, word));
            return true;
        }

        private boolean takesWeight(int v) {
            int w = Saying.word(left, 0) - 1;
            if (v < 1 || v > HEAVIEST || w < 0 || w >= weight.length) {
                return false;
            }
            weight[w] = v;
            state = WEIGHED;
            return true;
        }

        private boolean endsAt(int sign) {
            return sign == ';' && endsLine();
        }

        /** Whether a LINE can end here; it is then taken. */
        private boolean endsLine() {
            if (state == RIGHT && right < left) {
                read.add(left, right);
            } else if (state != WEIGHED) {
                return false;
            }
            state = START;
            lines++;
            return true;
        }

        void handOver(Rules rules, Desk desk) {
            rules.addAll(read);
            for (int w = 0; w < weight.length; w++) {
                if (weight[w] > 0) {
                    desk.setWeight(w, weight[w]);
                }
            }
        }
    }

    /** THE ROW. */
    private static final class Told {
        private final long[] numbers = new long[32];
        int size = 0;

        void clear() {
            size = 0;
        }

        /** A row of n noughts. */
        void lay(int n) {
            size = 0;
            for (int k = 0; k < n; k++) {
                add(0);
            }
        }

        void add(long v) {
            if (size >= 0 && size < numbers.length) {
                numbers[size] = v;
                size++;
            }
        }

        /** Numbers behind the row's end are not told. */
        void put(int i, long v) {
            if (i >= 0 && i < size && i < numbers.length) {
                numbers[i] = v;
            }
        }

        void raise(int i) {
            put(i, at(i) + 1);
        }

        long at(int i) {
            return i >= 0 && i < size && i < numbers.length ? numbers[i] : 0;
        }
    }

    /** What can be kept: THE SPEECH, THE MINUTES, R, WEIGHTS, WIDE. */
    private static final class Desk {
        private final int[] weight = new int[KINDS];
        long spoken = 0;
        long left = 0;
        int draw = 1;
        int kinds = 3;
        boolean held = false;

        Desk() {
            for (int w = 0; w < weight.length; w++) {
                weight[w] = 1;
            }
        }

        void take(Desk other) {
            spoken = other.spoken;
            left = other.left;
            draw = other.draw;
            kinds = other.kinds;
            for (int w = 0; w < weight.length; w++) {
                weight[w] = other.weightOf(w);
            }
        }

        int weightOf(int w) {
            return w >= 0 && w < weight.length ? weight[w] : 0;
        }

        void setWeight(int w, int v) {
            if (w >= 0 && w < weight.length) {
                weight[w] = v;
            }
        }

        int weightOfAll(long s) {
            int sum = 0;
            int n = Saying.size(s);
            for (int p = 0; p < n; p++) {
                sum += weightOf(Saying.word(s, p) - 1);
            }
            return sum;
        }
    }

    /** A search: SAYINGS, the nearest first, each with the least way to it. */
    private static final class Net {
        private static final int ROOM = 3000;
        private static final int SLOTS = 8192;
        // Behind it the numbers in 'slots' would come round.
        private static final int LAST_BASE = 0x7FFFFFFF - 2 * ROOM;
        private static final int MOST_STEPS = 256;
        private final long[] said = new long[ROOM];
        private final int[] ahead = new int[ROOM];
        private final int[] how = new int[ROOM];
        private final int[] far = new int[ROOM];
        private final boolean[] finished = new boolean[ROOM];
        private final long[] tally = new long[ROOM];
        private final long[] ranked = new long[ROOM];
        // Number of a SAYING above 'base'; what is below is of an earlier search and counts as free.
        private final int[] slots = new int[SLOTS];
        private int base = 1;
        // What one step makes of the SAYING looked at, and by which STRIKE.
        private final long[] to = new long[MOST_STEPS];
        private final int[] by = new int[MOST_STEPS];
        private int steps = 0;
        private boolean over = false;
        private boolean isRanked = false;
        private int version = NONE;
        private long start = NONE;
        private int without = NONE;
        int size = 0;

        private void begin(long s) {
            base += ROOM;
            if (base > LAST_BASE) {
                for (int k = 0; k < SLOTS && k < slots.length; k++) {
                    slots[k] = 0;
                }
                base = 1;
            }
            size = 0;
            over = false;
            isRanked = false;
            start = s;
            add(s, NONE, 0);
        }

        /** The SAYING's own slot, or the free one in which it would stand. */
        private int slotOf(long s) {
            int from = (int) ((s ^ s >>> 31) * 0x9E3779B97F4A7C15L >>> 51);
            for (int k = 0; k < SLOTS; k++) {
                int slot = from + k & SLOTS - 1;
                int at = slot < slots.length ? slots[slot] - base : NONE;
                if (at < 0 || at < said.length && said[at] == s) {
                    return slot;
                }
            }
            return 0;
        }

        /** The SAYING's number, or NONE. */
        int find(long s) {
            int slot = slotOf(s);
            int at = slot >= 0 && slot < slots.length ? slots[slot] - base : NONE;
            return at < 0 ? NONE : at;
        }

        private void add(long s, int from, int strike) {
            int slot = slotOf(s);
            if (slot < 0 || slot >= slots.length || slots[slot] >= base) {
                return;
            }
            if (size < 0 || size >= ROOM) {
                over = true;
                return;
            }
            said[size] = s;
            ahead[size] = from;
            how[size] = strike;
            far[size] = from < 0 ? 0 : farOf(from) + 1;
            finished[size] = false;
            slots[slot] = base + size;
            size++;
        }

        /** All that a SAYING LEADS to by all RULES but one; false if that is too much. */
        boolean search(Rules rules, long s, int leftOut) {
            if (version == rules.version && start == s && without == leftOut) {
                return !over;
            }
            begin(s);
            version = rules.version;
            without = leftOut;
            for (int at = 0; at < size && at < ROOM && !over; at++) {
                step(rules, said[at]);
                finished[at] = steps == 0;
                for (int k = 0; k < steps; k++) {
                    add(toOf(k), at, byOf(k));
                }
            }
            return !over;
        }

        /** The SAYING one step ahead of a goal, by STRIKES either way round; NOT, TOO_MANY. */
        int spread(Rules rules, long s, long goal, int most) {
            begin(s);
            version = NONE;
            int end = size;
            for (int at = 0; at < size && at < ROOM; at++) {
                // Those that are equally near are all looked at, even when there are too many already.
                if (at == end && over) {
                    return TOO_MANY;
                }
                end = at == end ? size : end;
                stepAround(rules, said[at], most);
                if (catches(at, goal)) {
                    return at;
                }
            }
            return over ? TOO_MANY : NOT;
        }

        private boolean catches(int at, long goal) {
            for (int k = 0; k < steps; k++) {
                if (toOf(k) == goal) {
                    return true;
                }
                add(toOf(k), at, 0);
            }
            return false;
        }

        /** What each STRIKE makes of a SAYING, by RULES (but the one left out), then by places. */
        private void step(Rules rules, long s) {
            steps = 0;
            for (int i = 0; i < rules.count; i++) {
                int places = i == without ? NONE : Saying.size(s) - Saying.size(rules.leftOf(i));
                for (int place = 0; place <= places; place++) {
                    if (rules.fits(i, s, place) && steps < to.length && steps < by.length) {
                        by[steps] = Rules.strikeBy(i, place);
                        to[steps] = rules.struck(s, by[steps]);
                        steps++;
                    }
                }
            }
        }

        /** By STRIKES and STRIKES turned round, unlike ones of at most some WORDS, the one AHEAD first. */
        private void stepAround(Rules rules, long s, int most) {
            steps = 0;
            for (int i = 0; i < rules.count; i++) {
                exchange(s, rules.leftOf(i), rules.rightOf(i), most);
                exchange(s, rules.rightOf(i), rules.leftOf(i), most);
            }
        }

        private void exchange(long s, long from, long into, int most) {
            int places = Saying.size(s) - Saying.size(from);
            boolean room = places + Saying.size(into) <= most;
            for (int place = 0; room && place <= places; place++) {
                if (Saying.has(s, place, from)) {
                    insert(Saying.put(s, place, Saying.size(from), into));
                }
            }
        }

        private void insert(long s) {
            int at = steps;
            while (at > 0 && at <= to.length && to[at - 1] >= s) {
                at--;
            }
            if (steps >= to.length || at < steps && to[at] == s) {
                return;
            }
            for (int k = steps; k > at; k--) {
                to[k] = to[k - 1];
            }
            to[at] = s;
            steps++;
        }

        private long toOf(int k) {
            return k >= 0 && k < steps && k < to.length ? to[k] : 0;
        }

        private int byOf(int k) {
            return k >= 0 && k < steps && k < by.length ? by[k] : 0;
        }

        private void rank() {
            if (!isRanked) {
                System.arraycopy(said, 0, ranked, 0, ROOM);
                Saying.order(ranked, size);
                isRanked = true;
            }
        }

        /** Into 'tally' of each SAYING: in how many ways it is come to, or else the most STRIKES to it. */
        void gather(Rules rules, boolean ways) {
            rank();
            for (int k = 0; k < size && k < ROOM; k++) {
                tally[k] = 0;
            }
            tally[0] = ways ? 1 : 0;
            for (int k = Math.min(size, ROOM) - 1; k >= 0; k--) {
                step(rules, ranked[k]);
                pass(tallyOf(find(ranked[k])), ways);
            }
        }

        private void pass(long from, boolean ways) {
            for (int k = 0; k < steps; k++) {
                int at = find(toOf(k));
                if (at >= 0 && at < tally.length) {
                    tally[at] = ways ? tally[at] + from : Math.max(tally[at], from + 1);
                }
            }
        }

        int ends() {
            int n = 0;
            for (int k = 0; k < size && k < ROOM; k++) {
                n += finished[k] ? 1 : 0;
            }
            return n;
        }

        long mostTillDone() {
            long most = 0;
            for (int k = 0; k < size && k < ROOM; k++) {
                most = finished[k] ? Math.max(most, tally[k]) : most;
            }
            return most;
        }

        int fewestTillDone() {
            for (int k = 0; k < size && k < ROOM; k++) {
                if (finished[k]) {
                    return far[k];
                }
            }
            return 0;
        }

        long waysTillDone() {
            long sum = 0;
            for (int k = 0; k < size && k < ROOM; k++) {
                sum += finished[k] ? tally[k] : 0;
            }
            return sum;
        }

        /** The DONE SAYING number n, or NONE. */
        long doneNumber(int n) {
            rank();
            int number = 0;
            for (int k = 0; k < size && k < ROOM; k++) {
                if (isFinished(find(ranked[k]))) {
                    if (number == n) {
                        return ranked[k];
                    }
                    number++;
                }
            }
            return NONE;
        }

        /** The SAYING that stands in both which is AHEAD of all such, or NONE. */
        long leastIn(Net other) {
            long least = NONE;
            for (int k = 0; k < size && k < ROOM; k++) {
                if ((least < 0 || said[k] < least) && other.find(said[k]) >= 0) {
                    least = said[k];
                }
            }
            return least;
        }

        private boolean isFinished(int at) {
            return at >= 0 && at < finished.length && finished[at];
        }

        long saidAt(int at) {
            return at >= 0 && at < said.length ? said[at] : 0;
        }

        long tallyOf(int at) {
            return at >= 0 && at < tally.length ? tally[at] : 0;
        }

        int farOf(int at) {
            return at >= 0 && at < far.length ? far[at] : 0;
        }

        int howOf(int at) {
            return at >= 0 && at < how.length ? how[at] : 0;
        }

        int aheadOf(int at) {
            return at >= 0 && at < ahead.length ? ahead[at] : NONE;
        }
    }

    /** OVERLAPS of RULES, one after the other. */
    private static final class Overlaps {
        private static final int WITHIN = 10;
        private static final int SPAN = 16;
        static final int MOST = Rules.ROOM * Rules.ROOM * SPAN;
        private Rules rules = null;
        private int at = 0;
        int one = 0;
        int other = 0;
        int shared = 0;
        long whole = 0;
        long byOne = 0;
        long byOther = 0;

        void begin(Rules of) {
            rules = of;
            at = NONE;
        }

        /** Goes to the next OVERLAP, if there is one. */
        boolean advance() {
            int n = rules == null ? 0 : rules.count;
            if (n < 1) {
                return false;
            }
            for (at++; at < n * n * SPAN; at++) {
                one = at / SPAN / n;
                other = at / SPAN % n;
                shared = at % SPAN;
                if (shared < WITHIN ? joins() : lies()) {
                    return true;
                }
            }
            return false;
        }

        /** Goes on to OVERLAP k of those from the beginning. */
        boolean goTo(int k) {
            for (int n = 0; n <= k; n++) {
                if (!advance()) {
                    return false;
                }
            }
            return true;
        }

        private boolean joins() {
            long l = rules.leftOf(one);
            long m = rules.leftOf(other);
            int n = Saying.size(l);
            if (shared < 1 || shared >= n || shared >= Saying.size(m)) {
                return false;
            }
            if (!Saying.has(l, n - shared, Saying.part(m, 0, shared))) {
                return false;
            }
            whole = Saying.put(l, n, 0, Saying.part(m, shared, Saying.size(m) - shared));
            strikeBoth(n - shared);
            return true;
        }

        private boolean lies() {
            whole = rules.leftOf(one);
            if (one == other || !rules.fits(other, whole, shared - WITHIN)) {
                return false;
            }
            strikeBoth(shared - WITHIN);
            return true;
        }

        private void strikeBoth(int place) {
            byOne = rules.struck(whole, Rules.strikeBy(one, 0));
            byOther = rules.struck(whole, Rules.strikeBy(other, place));
        }
    }

    /** RULES and those that are added to them, till all OVERLAPS come to one. */
    private static final class Aside {
        final Rules all = new Rules();
        private final Overlaps laps = new Overlaps();
        private int version = NONE;
        private boolean stuck = false;
        boolean done = false;
        int added = 0;

        /** Adds till n are added, if so many are needed and can be. */
        void extend(Rules rules, int n) {
            if (version != rules.version) {
                begin(rules);
            }
            for (int k = 0; k <= n && !done && !stuck && added <= n; k++) {
                addOne(n);
            }
        }

        private void begin(Rules rules) {
            version = rules.version;
            all.clear();
            all.addAll(rules);
            added = 0;
            done = false;
            stuck = false;
        }

        private void addOne(int n) {
            laps.begin(all);
            for (int k = 0; k < Overlaps.MOST && laps.advance(); k++) {
                long a = all.leave(0, laps.byOne);
                long b = all.leave(0, laps.byOther);
                if (a != b) {
                    tell(Math.max(a, b), Math.min(a, b), n);
                    return;
                }
            }
            done = true;
        }

        private void tell(long left, long right, int n) {
            if (Saying.size(left) > Rules.MOST_WORDS) {
                stuck = true;
            } else if (added < n) {
                all.add(left, right);
                added++;
            }
        }
    }

    /** The least row of WEIGHTS with which each RULE makes less. */
    private static final class Balance {
        private final int[][] gain = new int[MOST_RULES][KINDS];
        private final int[][] low = new int[KINDS + 1][KINDS];
        private final int[][] high = new int[KINDS + 1][KINDS];
        private int count = 0;
        private int version = NONE;
        private boolean solved = false;

        boolean solve(Rules rules) {
            if (version != rules.version) {
                version = rules.version;
                begin(rules);
                solved = narrow(low[0], high[0]) && choose(0);
            }
            return solved;
        }

        private void begin(Rules rules) {
            count = Math.min(rules.count, gain.length);
            for (int i = 0; i < count; i++) {
                for (int w = 0; w < KINDS; w++) {
                    gain[i][w] = times(rules.leftOf(i), w + 1) - times(rules.rightOf(i), w + 1);
                }
            }
            for (int w = 0; w < KINDS; w++) {
                low[0][w] = 1;
                high[0][w] = HEAVIEST;
            }
        }

        int weightOf(int w) {
            return w >= 0 && w < KINDS ? low[KINDS][w] : 1;
        }

        private static int times(long s, int word) {
            int n = 0;
            for (int p = 0; p < Saying.size(s); p++) {
                n += Saying.word(s, p) == word ? 1 : 0;
            }
            return n;
        }

        /** Tries the WEIGHTS of one word after the other, the least first. */
        private boolean choose(int word) {
            if (word < 0 || word >= KINDS) {
                return true;
            }
            for (int v = low[word][word]; v <= high[word][word]; v++) {
                System.arraycopy(low[word], 0, low[word + 1], 0, KINDS);
                System.arraycopy(high[word], 0, high[word + 1], 0, KINDS);
                low[word + 1][word] = v;
                high[word + 1][word] = v;
                if (narrow(low[word + 1], high[word + 1]) && choose(word + 1)) {
                    return true;
                }
            }
            return false;
        }

        /** Draws bounds together as far as each RULE alone asks; false if one can't make less. */
        private boolean narrow(int[] from, int[] to) {
            boolean closer = true;
            // Each round but the last one takes a WEIGHT away, and there are 72.
            for (int round = 0; closer && round <= KINDS * HEAVIEST; round++) {
                closer = false;
                for (int i = 0; i < count; i++) {
                    int spare = spare(i, from, to);
                    if (spare < 0) {
                        return false;
                    }
                    closer |= tighten(i, spare, from, to);
                }
            }
            return true;
        }

        /** By how much a RULE makes less than it must, at the best. */
        private int spare(int i, int[] from, int[] to) {
            int best = NONE;
            for (int w = 0; w < KINDS && w < from.length && w < to.length; w++) {
                if (from[w] > to[w]) {
                    return NONE;
                }
                int g = gainOf(i, w);
                best += g > 0 ? g * to[w] : g * from[w];
            }
            return best;
        }

        private boolean tighten(int i, int spare, int[] from, int[] to) {
            boolean closer = false;
            for (int w = 0; w < KINDS && w < from.length && w < to.length; w++) {
                int g = gainOf(i, w);
                if (g > 0 && to[w] - spare / g > from[w]) {
                    from[w] = to[w] - spare / g;
                    closer = true;
                }
                if (g < 0 && from[w] + spare / -g < to[w]) {
                    to[w] = from[w] + spare / -g;
                    closer = true;
                }
            }
            return closer;
        }

        private int gainOf(int i, int w) {
            return i >= 0 && i < gain.length && w >= 0 && w < KINDS ? gain[i][w] : 0;
        }
    }

    /** What a CLERK leaves of all SAYINGS within WIDE, those of no WORDS first. */
    private static final class Finals {
        static final int MANY = 4096;
        private static final int ROOM = 2 * MANY;
        // So many STRIKES are made one by one, to find a SAYING that is settled.
        private static final int STEPS = 64;
        private final long[] left = new long[ROOM];
        private final long[] strikes = new long[ROOM];
        private final int[] begins = new int[Saying.MOST + 1];
        private final long[] sorted = new long[MANY];
        private final int clerk;
        private int kinds = 0;
        private int version = NONE;
        private int longest = NONE;
        long found = 0;
        int often = 0;

        Finals(int by) {
            clerk = by;
        }

        /** How many SAYINGS of n WORDS there are, MANY + 1 for more than MANY. */
        static int many(int kinds, int n) {
            int many = 1;
            for (int k = 0; k < n && many <= MANY; k++) {
                many *= kinds;
            }
            return Math.min(many, MANY + 1);
        }

        void upTo(Rules rules, int wide, int n) {
            if (version != rules.version || kinds != wide) {
                version = rules.version;
                kinds = wide;
                longest = NONE;
            }
            for (int m = longest + 1; m <= n && m >= 0 && m < begins.length; m++) {
                begins[m] = m == 0 ? 0 : beginOf(m - 1) + many(kinds, m - 1);
                int many = many(kinds, m);
                for (int k = 0; k < many; k++) {
                    settle(rules, spelt(k, m), begins[m] + k);
                }
                longest = m;
            }
        }

        private int beginOf(int n) {
            return n >= 0 && n < begins.length ? begins[n] : 0;
        }

        /** SAYING number k of n WORDS within WIDE. */
        private long spelt(int k, int n) {
            long words = 0;
            int rest = k;
            for (int p = 0; p < n && kinds > 0; p++) {
                words |= (long) (rest % kinds + 1) << 4 * p;
                rest /= kinds;
            }
            return Saying.of(n, words);
        }

        /** Where a SAYING stands, NONE if it has a word beyond WIDE. */
        private int indexOf(long s) {
            int number = 0;
            int n = Saying.size(s);
            for (int p = 0; p < n; p++) {
                int w = Saying.word(s, p);
                if (w > kinds) {
                    return NONE;
                }
                number = number * kinds + w - 1;
            }
            return beginOf(n) + number;
        }

        /** STRIKES a SAYING till it is one that is settled: all within WIDE that are AHEAD of it are. */
        private void settle(Rules rules, long s, int at) {
            long rest = s;
            long n = 0;
            int next = rules.next(clerk, rest);
            while (next >= 0 && n < STEPS) {
                rest = rules.struck(rest, next);
                n++;
                int known = indexOf(rest);
                if (known >= 0 && known < at && known < ROOM) {
                    n += strikes[known];
                    rest = left[known];
                    next = NONE;
                } else {
                    next = rules.next(clerk, rest);
                }
            }
            if (next >= 0) {
                rest = rules.leaps().leave(rules, clerk, rest);
                n += rules.leaps().strikes;
            }
            if (at >= 0 && at < ROOM) {
                left[at] = rest;
                strikes[at] = n;
            }
        }

        private long leftOf(int n, int k) {
            int at = beginOf(n) + k;
            return at >= 0 && at < left.length ? left[at] : 0;
        }

        private long strikesOf(int n, int k) {
            int at = beginOf(n) + k;
            return at >= 0 && at < strikes.length ? strikes[at] : 0;
        }

        /** Of how many SAYINGS of n WORDS a goal is left; the first of them is found. */
        int broughtTo(int n, long goal) {
            int number = 0;
            for (int k = many(kinds, n) - 1; k >= 0; k--) {
                if (leftOf(n, k) == goal) {
                    found = spelt(k, n);
                    number++;
                }
            }
            return number;
        }

        /** The most STRIKES; the first SAYING with so many is found, and how often there is none. */
        long mostStrikes(int n) {
            long most = NONE;
            often = 0;
            for (int k = 0; k < many(kinds, n); k++) {
                long has = strikesOf(n, k);
                often += has == 0 ? 1 : 0;
                if (has > most) {
                    most = has;
                    found = spelt(k, n);
                }
            }
            return most;
        }

        /** How many unlike SAYINGS are left; the one that is left most often is found. */
        int unlike(int n) {
            int many = Math.min(many(kinds, n), sorted.length);
            for (int k = 0; k < many; k++) {
                sorted[k] = leftOf(n, k);
            }
            Saying.order(sorted, many);
            int unlike = 0;
            int same = 0;
            often = 0;
            for (int k = 0; k < many; k++) {
                boolean isNew = k == 0 || sorted[k] != sorted[k - 1];
                unlike += isNew ? 1 : 0;
                same = isNew ? 1 : same + 1;
                if (same > often) {
                    often = same;
                    found = sorted[k];
                }
            }
            return unlike;
        }

        /** Of how many SAYINGS another CLERK leaves another one; the first of them is found. */
        int unlikeThose(Finals others, int n) {
            int unlike = 0;
            for (int k = many(kinds, n) - 1; k >= 0; k--) {
                if (leftOf(n, k) != others.leftOf(n, k)) {
                    found = spelt(k, n);
                    unlike++;
                }
            }
            return unlike;
        }
    }

    /** Counts DONE SAYINGS by the longest ending of each with which a LEFT could begin. */
    private static final class Still {
        // No beginning, and four of each LEFT: a whole LEFT is none.
        private static final int ROOM = 1 + 4 * MOST_RULES;
        private final long[] begin = new long[ROOM];
        private final int[][] onto = new int[ROOM][KINDS];
        private final long[][] many = new long[2][ROOM];
        private int size = 0;

        long number(Rules rules, int n, int wide) {
            collect(rules);
            for (int k = 0; k < size && k < ROOM; k++) {
                many[0][k] = k == 0 ? 1 : 0;
                for (int w = 0; w < KINDS; w++) {
                    long word = Saying.of(1, w + 1);
                    onto[k][w] = stateOf(rules, Saying.put(begin[k], Saying.size(begin[k]), 0, word));
                }
            }
            for (int k = 0; k < n; k++) {
                go(many[k & 1], many[k + 1 & 1], Math.min(wide, KINDS));
            }
            long sum = 0;
            for (int k = 0; k < size && k < ROOM; k++) {
                sum += many[n & 1][k];
            }
            return sum;
        }

        private void collect(Rules rules) {
            size = 0;
            add(0);
            for (int i = 0; i < rules.count; i++) {
                long l = rules.leftOf(i);
                for (int n = 1; n < Saying.size(l); n++) {
                    add(Saying.part(l, 0, n));
                }
            }
        }

        private void add(long s) {
            if (find(s) == NONE && size < ROOM) {
                begin[size] = s;
                size++;
            }
        }

        private int find(long s) {
            for (int k = 0; k < size && k < ROOM; k++) {
                if (begin[k] == s) {
                    return k;
                }
            }
            return NONE;
        }

        /** The longest ending of a SAYING with which a LEFT begins, NONE if it ends in a LEFT. */
        private int stateOf(Rules rules, long s) {
            int n = Saying.size(s);
            for (int i = 0; i < rules.count; i++) {
                if (rules.fits(i, s, n - Saying.size(rules.leftOf(i)))) {
                    return NONE;
                }
            }
            for (int place = 0; place < n; place++) {
                int state = find(Saying.part(s, place, n - place));
                if (state >= 0) {
                    return state;
                }
            }
            return 0;
        }

        private void go(long[] now, long[] then, int wide) {
            for (int k = 0; k < size && k < then.length; k++) {
                then[k] = 0;
            }
            for (int k = 0; k < size && k < now.length && k < ROOM; k++) {
                for (int w = 0; w < wide; w++) {
                    int to = onto[k][w];
                    if (to >= 0 && to < then.length) {
                        then[to] += now[k];
                    }
                }
            }
        }
    }
}
