import java.util.function.Supplier;

/** The boundaries of promises 24 to 28. */
public final class OverlapEdgeTest {
    private static final String TWELVE = "a>;b>;c>;d>;e>;f>;g>;ha>;hb>;hc>;hd>;";

    public static void main(String[] args) {
        Edge.all(OverlapEdgeTest.class);
    }

    private static Supplier<StrikeWhatCancels> made(String rules) {
        return () -> {
            StrikeWhatCancels x = Calls.with(rules, "abcdefgh");
            x.can();
            return x;
        };
    }

    private static Supplier<StrikeWhatCancels> none() {
        return () -> {
            StrikeWhatCancels x = new StrikeWhatCancels();
            x.speak(1);
            x.run(0, 0);
            return x;
        };
    }

    /** haaaa comes to a, or to fdeee, which leads to 3000 SAYINGS. */
    private static Supplier<StrikeWhatCancels> full() {
        return made(Edge.SEVEN + ";haaaa>a;haaaa>fdeee");
    }

    /** haaaa comes to a, or to fdeee, which leads to 3001 SAYINGS. */
    private static Supplier<StrikeWhatCancels> overfull() {
        return made(Edge.SEVEN + ";haaaa>a;haaaa>fdeee;fdeee>");
    }

    private static long code(String words) {
        return Calls.code(words);
    }

    // ---- promise 24

    @Says("n 1 .. one less than the shorter LEFT (LEFTS of one word: none)")
    static void promise24OneWord() {
        Edge.asks("overlaps", made("a>;b>"), x -> x.overlaps(), 0, 0, -1);
        Edge.asks("overlaps", made("a>;ab>b"), x -> x.overlaps(), 1, 0, -1);
        Edge.asks("overlap, within alone", made("a>;ab>b"), x -> x.overlap(0), 1, 1, 0, 10, code("ab"), 2, 2);
    }

    @Says("n 1 .. one less than the shorter LEFT (the whole shorter LEFT is none)")
    static void promise24NotTheWholeLeft() {
        // ab ends cab, and begins abc: as within alone.
        Edge.asks("overlaps", made("ab>;cab>a"), x -> x.overlaps(), 1, 1, 0);
        Edge.asks("overlap", made("ab>;cab>a"), x -> x.overlap(0), 0, 1, 0, 11, code("cab"), 1, 3);
        Edge.asks("overlaps", made("ab>;abc>a"), x -> x.overlaps(), 1, 1, 0);
        Edge.asks("overlap", made("ab>;abc>a"), x -> x.overlap(0), 0, 1, 0, 10, code("abc"), 1, 3);
        // Two like LEFTS of two words: by one word, and within each other.
        Edge.asks("overlaps", made("aa>a;aa>a"), x -> x.overlaps(), 4 + 2, 0, -1);
    }

    @Says("n 1 .. one less than the shorter LEFT (4 of five words, 9 in all)")
    static void promise24FiveWords() {
        Supplier<StrikeWhatCancels> made = made("aaaaa>b");
        Edge.asks("overlaps", made, x -> x.overlaps(), 4, 4, 0);
        for (int n = 1; n <= 4; n++) {
            int m = n;
            Edge.asks("overlap", made, x -> x.overlap(m - 1), 0, 0, 0, m, code("a".repeat(10 - m)),
                code("b" + "a".repeat(5 - m)), code("a".repeat(5 - m) + "b"));
        }
    }

    @Says("the last n WORDS of LEFT of i are the first n of LEFT of j")
    static void promise24LastAndFirst() {
        Edge.asks("overlaps", made("abc>;bcd>c"), x -> x.overlaps(), 1, 1, 0);
        Edge.asks("overlap", made("abc>;bcd>c"), x -> x.overlap(0), 0, 0, 1, 2, code("abcd"), 4, code("ac"));
        Edge.asks("overlaps", made("bcd>;abc>a"), x -> x.overlaps(), 1, 1, 0);
        Edge.asks("overlap", made("bcd>;abc>a"), x -> x.overlap(0), 0, 1, 0, 2, code("abcd"), code("ad"), 1);
    }

    @Says("RULES i, j (like ones, too)")
    static void promise24LikeOnes() {
        Edge.asks("overlaps", made("aba>"), x -> x.overlaps(), 1, 1, 0);
        Edge.asks("overlap", made("aba>"), x -> x.overlap(0), 0, 0, 0, 1, code("ababa"), code("ba"), code("ab"));
    }

    @Says("or, i and j unlike, LEFT of j stands within LEFT of i at a place (not within itself)")
    static void promise24NotWithinItself() {
        Edge.asks("overlaps", made("ab>"), x -> x.overlaps(), 0, 0, -1);
        Edge.asks("overlaps", made("ab>;ab>"), x -> x.overlaps(), 2, 0, -1);
        Edge.asks("overlap", made("ab>;ab>c"), x -> x.overlap(0), 0, 0, 1, 10, code("ab"), 0, 3);
        Edge.asks("overlap", made("ab>;ab>c"), x -> x.overlap(1), 0, 1, 0, 10, code("ab"), 3, 0);
    }

    @Says("(n is 10 and that place) (10 .. 14)")
    static void promise24Within() {
        // aaaaa with itself by 1 .. 4, then a within it at 0 .. 4.
        Edge.asks("overlaps", made("aaaaa>;a>"), x -> x.overlaps(), 4 + 5, 0, -1);
        for (int place = 0; place < 5; place++) {
            int n = 10 + place;
            Edge.asks("overlap", made("aaaaa>;a>"), x -> x.overlap(n - 6), 1, 0, 1, n, code("aaaaa"), 0, code("aaaa"));
        }
        Edge.stays("overlap behind them", made("aaaaa>;a>"), x -> x.overlap(9), -2);
    }

    @Says("By i, then j, then n")
    static void promise24InOrder() {
        Supplier<StrikeWhatCancels> made = made("aa>;aaa>a");
        // 0 0 1; 0 1 1; 1 0 1, 1 0 10, 1 0 11; 1 1 1, 1 1 2.
        long[][] due = {{0, 0, 1}, {0, 1, 1}, {1, 0, 1}, {1, 0, 10}, {1, 0, 11}, {1, 1, 1}, {1, 1, 2}};
        Edge.asks("overlaps", made, x -> x.overlaps(), due.length, 0, -1);
        StrikeWhatCancels x = made.get();
        for (int k = 0; k < due.length; k++) {
            Calls.due("overlap", x.overlap(k), 1);
            for (int p = 0; p < 3; p++) {
                Calls.due("overlap " + k + ", number " + p, x.row(p), due[k][p]);
            }
        }
    }

    @Says("how many; the ROW: how many do not MEET, the number of the first that does not (NONE)")
    static void promise24HowMany() {
        Edge.asks("all meet", made("ab>;ba>"), x -> x.overlaps(), 2, 0, -1);
        Edge.asks("the first", made("ab>;ba>c"), x -> x.overlaps(), 2, 2, 0);
        // aba and bab meet; cd comes to none, or to c.
        Edge.asks("the last", made("ab>;ba>;cd>;d>"), x -> x.overlaps(), 3, 1, 2);
        Edge.asks("no RULES", none(), x -> x.overlaps(), 0, 0, -1);
        Edge.asks("one RULE", made("ab>"), x -> x.overlaps(), 0, 0, -1);
    }

    @Says("how many do not MEET (by all RULES: the first, the last)")
    static void promise24ByAllRules() {
        // gh comes to a, or to b, which comes to a by the first RULE alone.
        Edge.asks("overlaps", made("b>a;gh>a;gh>b"), x -> x.overlaps(), 2, 0, -1);
        Edge.asks("overlap", made("b>a;gh>a;gh>b"), x -> x.overlap(0), 1, 1, 2, 10, code("gh"), 1, 2);
        // ababa comes to bba and abb, and both to a by the last RULE.
        Edge.asks("overlaps", made("aba>b;bb>"), x -> x.overlaps(), 2, 0, -1);
    }

    @Says("-3, if one search does so. (3000, 3001)")
    static void promise24TooMany() {
        Edge.asks("3000", full(), x -> x.overlaps(), 2, 2, 0);
        Edge.stays("3001", overfull(), x -> x.overlaps(), -3);
    }

    // ---- promise 25

    @Says("Of OVERLAP k, the ROW: i, j, n, CODES of the SAYING, of that STRUCK by i, by j. 1, if they MEET, else 0.")
    static void promise25Overlap() {
        Edge.asks("meets", made("ab>;ba>"), x -> x.overlap(1), 1, 1, 0, 1, code("bab"), 2, 2);
        Edge.asks("does not", made("ab>;ba>c"), x -> x.overlap(1), 0, 1, 0, 1, code("bab"), code("cb"), 2);
    }

    @Says("-2: there are not so many")
    static void promise25NotSoMany() {
        for (int k : new int[] {2, 3, 144, 1000000, Integer.MAX_VALUE}) {
            Edge.stays("overlap(" + k + ")", made("ab>;ba>"), x -> x.overlap(k), -2);
        }
        Edge.stays("overlap(0) of none", made("ab>"), x -> x.overlap(0), -2);
        Edge.stays("overlap(0) without RULES", none(), x -> x.overlap(0), -2);
    }

    @Says("-3 (3000, 3001)")
    static void promise25TooMany() {
        Edge.asks("3000", full(), x -> x.overlap(0), 0, 6, 7, 10, code("haaaa"), 1, code("fdeee"));
        Edge.stays("3001", overfull(), x -> x.overlap(0), -3);
        Edge.stays("3001, the other one", overfull(), x -> x.overlap(1), -3);
        Edge.stays("behind all of them", full(), x -> x.overlap(2), -2);
    }

    @Says("NONE: k below 0.")
    static void promise25BelowZero() {
        for (int k : new int[] {-1, Integer.MIN_VALUE}) {
            Edge.stays("overlap(" + k + ")", x -> x.overlap(k), -1);
            Edge.stays("overlap(" + k + ") of 3001", overfull(), x -> x.overlap(k), -1);
            Edge.stays("overlap(" + k + ") without RULES", none(), x -> x.overlap(k), -1);
        }
    }

    // ---- promise 26

    @Says("RULES (bits) of which LEFT and RIGHT would MEET by the other RULES alone. (none of them)")
    static void promise26None() {
        Edge.stays("idle", made("a>"), x -> x.idle(), 0);
        Edge.stays("idle", made("ab>;ba>;c>b"), x -> x.idle(), 0);
        Edge.stays("idle without RULES", none(), x -> x.idle(), 0);
    }

    @Says("RULES (bits) (the first, the last of twelve, all)")
    static void promise26Bits() {
        Edge.stays("the first", made("ab>;a>;b>"), x -> x.idle(), 1);
        Edge.stays("the last", made(TWELVE + "aba>"), x -> x.idle(), 1 << 11);
        Edge.stays("all", made("h>;h>;h>;h>;h>;h>;h>;h>;h>;h>;h>;h>"), x -> x.idle(), (1 << 12) - 1);
    }

    @Says("by the other RULES alone (not by itself)")
    static void promise26NotByItself() {
        // b leads to a by RULE 0 alone. c and b lead to a by RULES 2 and 0, c to a by RULES 1 and 0.
        Edge.stays("idle", made("b>a;c>b;c>a"), x -> x.idle(), 1 << 1 | 1 << 2);
        Edge.stays("idle", made("b>a;c>b"), x -> x.idle(), 0);
        Edge.stays("idle, twice told", made("b>a;b>a"), x -> x.idle(), 3);
    }

    @Says("by the other RULES alone (though all that b leads to by all RULES was asked just before)")
    static void promise26NotByWhatWasAsked() {
        StrikeWhatCancels x = Calls.with("b>a", "b");
        Calls.due("net", x.net(), 2);
        Calls.due("idle", x.idle(), 0);
        Calls.due("net", x.net(), 2);
        Calls.due("meet", x.meet(2, 1), 1);
        Calls.due("idle", x.idle(), 0);
    }

    @Says("-3. (3000, 3001)")
    static void promise26TooMany() {
        // Without the last RULE haaaa stays as it is, and fdeee leads to 3000, or to none, too.
        Edge.stays("3000", made(Edge.SEVEN + ";haaaa>fdeee"), x -> x.idle(), 0);
        Edge.stays("3001", made(Edge.SEVEN + ";haaaa>fdeee;fdeee>"), x -> x.idle(), -3);
        Edge.stays("3001, told first", made("fdeee>;haaaa>fdeee;" + Edge.SEVEN), x -> x.idle(), -3);
    }

    // ---- promise 27

    @Says("Whether each RULE makes less by WEIGHTS as they are: 1, 0 (by 1, by 0)")
    static void promise27Lessens() {
        Edge.asks("by 1", made("ab>c"), x -> x.lessens(), 1, 0, 1);
        Edge.asks("by 0", made("ab>c;c=2"), x -> x.lessens(), 0, 0, 0);
        Edge.asks("by less than 0", made("ab>c;c=3"), x -> x.lessens(), 0, 0, -1);
        Edge.asks("as they are", () -> {
            StrikeWhatCancels x = Calls.with("ab>c;c=3");
            x.weigh(0, 9);
            return x;
        }, x -> x.lessens(), 1, 0, 7);
    }

    @Says("the RULE that makes the least less (the first), by how much (may be below 0)")
    static void promise27TheFirst() {
        Edge.asks("the first of like ones", made("aab>;ab>c;bb>c;ba>c"), x -> x.lessens(), 1, 1, 1);
        Edge.asks("one between", made("aab>;ab>c;b=9;bb>ah"), x -> x.lessens(), 1, 1, 9);
        Edge.asks("the last, below 0", made("aab>;ab>c;bb>ah;h=9"), x -> x.lessens(), 0, 2, -8);
        Edge.asks("the greatest there is", made("bbbbb>;b=9"), x -> x.lessens(), 1, 0, 45);
        Edge.asks("the least there is", made("baaaa>ahhhh;h=9"), x -> x.lessens(), 0, 0, 5 - 37);
    }

    @Says("Without RULES 1, the ROW NONE, 0.")
    static void promise27WithoutRules() {
        Edge.asks("lessens", none(), x -> x.lessens(), 1, -1, 0);
    }

    // ---- promise 28

    @Says("The least row of WEIGHTS 1 .. 9 of the eight WORDS with which each RULE makes less: the ROW: they. 1")
    static void promise28Weights() {
        Edge.asks("weights", made("a>"), x -> x.weights(), 1, 1, 1, 1, 1, 1, 1, 1, 1);
        Edge.asks("weights", made("h>g;c>b"), x -> x.weights(), 1, 1, 1, 2, 1, 1, 1, 1, 2);
        // Rows are compared from the first on: rather h of 2 than a of 2.
        Edge.asks("weights", made("hh>ab;ba>h;h=7;a=7"), x -> x.weights(), 1, 1, 2, 1, 1, 1, 1, 1, 2);
    }

    @Says("WEIGHTS 1 .. 9 (9 is enough, 10 would be needed)")
    static void promise28Nine() {
        // Twice b is above a and c, c above b: b is 3 at least, .., h 9.
        Edge.asks("9", made("h>g;g>f;f>e;e>d;d>c;c>b;bb>ac"), x -> x.weights(), 1, 1, 3, 4, 5, 6, 7, 8, 9);
        // Twice b is above a and d, d above b by two: b is 4 at least, .., h 10.
        Edge.asks("10", made("h>g;g>f;f>e;e>d;d>c;c>b;bb>ad"), x -> x.weights(), 0);
    }

    @Says("0: there are none.")
    static void promise28None() {
        Edge.asks("weights", made("ba>ab"), x -> x.weights(), 0);
        Edge.asks("weights", made("c>b;ba>ac"), x -> x.weights(), 0);
        // b and c are above a and d, a and d above b and c: no WEIGHT of one word shows it.
        Edge.asks("weights", made("bc>ad;da>cb"), x -> x.weights(), 0);
    }

    @Says("WEIGHTS with which each RULE makes less (without RULES the least row of all)")
    static void promise28WithoutRules() {
        Edge.asks("weights", none(), x -> x.weights(), 1, 1, 1, 1, 1, 1, 1, 1, 1);
    }

    @Says("(WEIGHTS stay as they are, and do not matter)")
    static void promise28WeightsStay() {
        Edge.asks("weights", made("b>a;a=9;b=1;c=5"), x -> x.weights(), 1, 1, 2, 1, 1, 1, 1, 1, 1);
    }
}
