import java.util.function.Supplier;

/** The boundaries of promises 12 to 17. */
public final class StrikingEdgeTest {
    /**
     * CLERK 1 counts down by these, a being 0, .., d 3: four words by one each STRIKE. Of five words
     * the last four become ddda, 252, when the first becomes less: 255 + 3 * (1 + 252) STRIKES.
     */
    private static final String DOWN = "daaa>cddd;caaa>bddd;baaa>addd;daa>cdd;caa>bdd;baa>add";
    private static final String DOWN_TOO = "da>cd;ca>bd;ba>ad;d>c;c>b;b>a";

    public static void main(String[] args) {
        Edge.all(StrikingEdgeTest.class);
    }

    private static StrikeWhatCancels counting() {
        StrikeWhatCancels x = Calls.with(DOWN);
        Calls.due("rules", Calls.book(x, DOWN_TOO), 6);
        Calls.due("speech", Calls.speech(x, "ddddd"), 5);
        return x;
    }

    /** An object of which THE MINUTES are DONE, though THE SPEECH is not. */
    private static StrikeWhatCancels finished() {
        StrikeWhatCancels x = Edge.busy();
        x.run(0, 500);
        x.can();
        return x;
    }

    // ---- promise 12

    @Says("the RULE; the ROW: the place, CODE of THE MINUTES then.")
    static void promise12Strike() {
        StrikeWhatCancels x = Calls.with("h>;ba>ab", "acba");
        Calls.due("strike", x.strike(0), 1);
        Calls.row(x, 2, Calls.code("acab"));
        Calls.due("THE MINUTES", x.minutes(), Calls.code("acab"));
        Calls.due("STRIKES to undo", x.count(3), 1);
        Calls.due("THE SPEECH", x.count(1), 4);
    }

    @Says("the place (the first one, 0; the last one, 13)")
    static void promise12FirstAndLastPlace() {
        StrikeWhatCancels x = Calls.with("b>", "b" + "a".repeat(12) + "b");
        Calls.due("strike(1)", x.strike(1), 0);
        Calls.row(x, 13, Calls.code("b" + "a".repeat(12)));
        Calls.due("strike(1)", x.strike(1), 0);
        Calls.row(x, 0, Calls.code("a".repeat(12)));
    }

    @Says("the RULE (the first one, 0; the last one, 11)")
    static void promise12FirstAndLastRule() {
        StrikeWhatCancels x = Calls.with("b>;a>;a>;a>;a>;a>;a>;a>;a>;a>;a>;c>", "cb");
        Calls.due("strike(0)", x.strike(0), 11);
        Calls.row(x, 0, 2);
        Calls.due("strike(0)", x.strike(0), 0);
        Calls.row(x, 0, 0);
    }

    @Says("-2: they are DONE")
    static void promise12Done() {
        for (int clerk = 0; clerk < 4; clerk++) {
            int c = clerk;
            Edge.stays("strike(" + c + ") of what is DONE", StrikingEdgeTest::finished, x -> x.strike(c), -2);
            Edge.stays("strike(" + c + ") of no words", StrikeWhatCancels::new, x -> x.strike(c), -2);
        }
    }

    @Says("-2: they are DONE (the last STRIKE is still made)")
    static void promise12LastStrike() {
        for (int clerk = 0; clerk < 4; clerk++) {
            StrikeWhatCancels x = Calls.with("b>a", "ab");
            Calls.due("strike(" + clerk + ")", x.strike(clerk), 0);
            Calls.row(x, 1, Calls.code("aa"));
            Calls.due("strike(" + clerk + ")", x.strike(clerk), -2);
            Calls.row(x, 1, Calls.code("aa"));
            Calls.due("STRIKES to undo", x.count(3), 1);
        }
    }

    @Says("NONE: another CLERK.")
    static void promise12AnotherClerk() {
        for (int clerk : new int[] {-1, 4, Integer.MAX_VALUE, Integer.MIN_VALUE}) {
            Edge.stays("strike(" + clerk + ")", x -> x.strike(clerk), -1);
        }
    }

    @Says("NONE goes ahead of -2")
    static void promise12AnotherClerkGoesAhead() {
        for (int clerk : new int[] {-1, 4}) {
            Edge.stays("strike(" + clerk + ") of what is DONE", StrikingEdgeTest::finished, x -> x.strike(clerk), -1);
        }
    }

    // ---- promise 13

    @Says("A CLERK STRIKES till THE MINUTES are DONE: how often; the ROW: CODE of THE MINUTES, how often by each RULE.")
    static void promise13TillTheyAreDone() {
        StrikeWhatCancels x = Calls.with("h>;c>b;b>a", "cb");
        Calls.due("run(0, 4)", x.run(0, 4), 3);
        Calls.row(x, Calls.code("aa"), 0, 1, 2);
        Calls.due("THE MINUTES", x.minutes(), Calls.code("aa"));
        Calls.due("STRIKES to undo", x.count(3), 3);
    }

    @Says("n times .. at most (as many as are needed, one less)")
    static void promise13AtMost() {
        StrikeWhatCancels x = Calls.with("h>;c>b;b>a", "cb");
        Calls.due("run(0, 3)", x.run(0, 3), 3);
        Calls.row(x, Calls.code("aa"), 0, 1, 2);
        x.anew();
        Calls.due("run(0, 2)", x.run(0, 2), 2);
        Calls.row(x, Calls.code("ab"), 0, 1, 1);
        Calls.due("STRIKES to undo", x.count(3), 2);
    }

    @Says("n times (0 .. 500) at most (0)")
    static void promise13None() {
        for (int clerk = 0; clerk < 4; clerk++) {
            int c = clerk;
            long minutes = Edge.busy().minutes();
            Edge.asks("run(" + c + ", 0)", x -> x.run(c, 0), 0, minutes, 0, 0, 0);
        }
    }

    @Says("n times (0 .. 500) at most (500)")
    static void promise13FiveHundred() {
        StrikeWhatCancels x = counting();
        // daaaa behind 255, cddda behind 256; 244 more make 8 of 252.
        Calls.due("run(1, 500)", x.run(1, 500), 500);
        Calls.due("THE MINUTES", x.minutes(), Calls.code("caaca"));
        Calls.due("the ROW's CODE", x.row(0), x.minutes());
        Calls.due("numbers of the ROW", x.count(5), 13);
        long sum = 0;
        for (int i = 1; i <= 12; i++) {
            sum += x.row(i);
        }
        Calls.due("by all RULES", sum, 500);
        Calls.due("run(1, 500)", x.run(1, 500), 500);
        Calls.due("THE MINUTES", x.minutes(), Calls.code("aaadc"));
        Calls.due("run(1, 500)", x.run(1, 500), 14);
        Calls.due("THE MINUTES", x.minutes(), Calls.code("aaaaa"));
    }

    @Says("NONE: others. (n below 0, above 500)")
    static void promise13OtherN() {
        for (int n : new int[] {-1, 501, Integer.MAX_VALUE, Integer.MIN_VALUE}) {
            for (int clerk = 0; clerk < 4; clerk++) {
                int c = clerk;
                Edge.stays("run(" + c + ", " + n + ")", x -> x.run(c, n), -1);
            }
        }
    }

    @Says("NONE: others. (another CLERK)")
    static void promise13OtherClerk() {
        for (int clerk : new int[] {-1, 4, Integer.MAX_VALUE, Integer.MIN_VALUE}) {
            Edge.stays("run(" + clerk + ", 5)", x -> x.run(clerk, 5), -1);
            Edge.stays("run(" + clerk + ", 0)", x -> x.run(clerk, 0), -1);
        }
    }

    @Says("A CLERK STRIKES till THE MINUTES are DONE (they are)")
    static void promise13DoneAlready() {
        long minutes = finished().minutes();
        for (int clerk = 0; clerk < 4; clerk++) {
            int c = clerk;
            Edge.asks("run(" + c + ", 500)", StrikingEdgeTest::finished, x -> x.run(c, 500), 0, minutes, 0, 0, 0);
        }
    }

    @Says("how often by each RULE (of none, of twelve)")
    static void promise13NoRules() {
        StrikeWhatCancels x = new StrikeWhatCancels();
        x.speak(11);
        Calls.due("run(0, 500)", x.run(0, 500), 0);
        Calls.row(x, 11);
        x = Calls.with("c>;a>;a>;a>;a>;a>;a>;a>;a>;a>;a>;b>", "bcb");
        Calls.due("run(3, 500)", x.run(3, 500), 3);
        Calls.row(x, 0, 1, 0, 0, 0, 0, 0, 0, 0, 0, 0, 0, 2);
    }

    // ---- promise 14

    @Says("The latest STRIKE in THE MINUTES is undone: how many are left that can be.")
    static void promise14Undo() {
        StrikeWhatCancels x = Calls.with("b>a", "bbb");
        x.run(0, 2);
        x.strike(1);
        String row = Edge.rowOf(x);
        Calls.due("undo", x.undo(), 2);
        Calls.due("THE MINUTES", x.minutes(), Calls.code("aab"));
        Calls.due("undo", x.undo(), 1);
        Calls.due("THE MINUTES", x.minutes(), Calls.code("abb"));
        Calls.due("STRIKES to undo", x.count(3), 1);
        Calls.due("the last of them", x.undo(), 0);
        Calls.due("THE MINUTES", x.minutes(), Calls.code("bbb"));
        Calls.due("the ROW", Edge.rowOf(x), row);
    }

    @Says("of 64 that are kept, the latest ones (63, 64)")
    static void promise14SixtyFour() {
        for (int n = 63; n <= 64; n++) {
            StrikeWhatCancels x = counting();
            x.run(1, n);
            Calls.due("STRIKES to undo", x.count(3), n);
            undoAll(x, n);
            Calls.due("THE MINUTES", x.minutes(), Calls.code("ddddd"));
        }
    }

    private static void undoAll(StrikeWhatCancels x, int n) {
        for (int left = n - 1; left >= 0; left--) {
            Calls.due("undo", x.undo(), left);
        }
        Calls.due("STRIKES to undo", x.count(3), 0);
        Calls.due("undo", x.undo(), -1);
    }

    @Says("of 64 that are kept, the latest ones (65)")
    static void promise14SixtyFive() {
        StrikeWhatCancels x = counting();
        x.run(1, 64);
        x.strike(1);
        Calls.due("STRIKES to undo", x.count(3), 64);
        undoAll(x, 64);
        // One STRIKE is made.
        Calls.due("THE MINUTES", x.minutes(), Calls.code("ddddc"));
    }

    @Says("of 64 that are kept, the latest ones (500 and more)")
    static void promise14Many() {
        StrikeWhatCancels x = counting();
        x.run(1, 500);
        x.run(1, 500);
        Calls.due("STRIKES to undo", x.count(3), 64);
        undoAll(x, 64);
        // 936 are made: addda behind 762, and 174 less than 252: 78 is 1032.
        Calls.due("THE MINUTES", x.minutes(), Calls.code("abadc"));
    }

    @Says("of 64 that are kept, the latest ones (STRIKES behind some that were undone)")
    static void promise14StrikesBehindUndone() {
        StrikeWhatCancels x = counting();
        x.run(1, 70);
        for (int left = 63; left >= 54; left--) {
            Calls.due("undo", x.undo(), left);
        }
        x.run(1, 9);
        Calls.due("STRIKES to undo", x.count(3), 63);
        x.run(1, 11);
        Calls.due("STRIKES to undo", x.count(3), 64);
        undoAll(x, 64);
        // 80 less 64 are made: 255 - 16 is 3233.
        Calls.due("THE MINUTES", x.minutes(), Calls.code("ddcdd"));
    }

    @Says("Refused: none.")
    static void promise14None() {
        Supplier<StrikeWhatCancels> none = () -> {
            StrikeWhatCancels x = Edge.busy();
            x.again(1);
            return x;
        };
        Edge.stays("undo", none, x -> x.undo(), -1);
        Edge.stays("undo of a new object", StrikeWhatCancels::new, x -> x.undo(), -1);
        Supplier<StrikeWhatCancels> undone = () -> {
            StrikeWhatCancels x = Edge.busy();
            Calls.due("undo", x.undo() + x.undo() + x.undo(), 3);
            return x;
        };
        Edge.stays("undo, where all is undone", undone, x -> x.undo(), -1);
    }

    @Says("(RULES that change take no STRIKE away)")
    static void promise14RulesThatChange() {
        StrikeWhatCancels x = Calls.with("b>a", "bb");
        x.strike(0);
        Calls.book(x, "aa>");
        x.swap(0, 1);
        Calls.due("undo", x.undo(), 0);
        Calls.due("THE MINUTES", x.minutes(), Calls.code("bb"));
    }

    // ---- promise 15

    @Says("THE MINUTES are THE SPEECH again: CODE of it.")
    static void promise15Anew() {
        StrikeWhatCancels x = Edge.busy();
        String row = Edge.rowOf(x);
        Calls.due("anew", x.anew(), Calls.code("dbbaaccd"));
        Calls.due("THE MINUTES", x.minutes(), Calls.code("dbbaaccd"));
        Calls.due("the ROW", Edge.rowOf(x), row);
        Calls.due("no SPEECH", new StrikeWhatCancels().anew(), 0);
    }

    @Says("(no STRIKE can be undone then)")
    static void promise15NoUndo() {
        StrikeWhatCancels x = Edge.busy();
        Calls.due("STRIKES to undo", x.count(3), 3);
        x.anew();
        Calls.due("STRIKES to undo", x.count(3), 0);
        Calls.due("undo", x.undo(), -1);
        Calls.due("THE MINUTES", x.minutes(), Calls.code("dbbaaccd"));
    }

    // ---- promise 16

    @Says("How many STRIKES can be made in THE MINUTES; the ROW: of each RULE how many.")
    static void promise16Can() {
        Edge.asks("can", () -> Calls.with("aa>;a>;ba>;c>", "aaaba"), x -> x.can(), 2 + 4 + 1, 2, 4, 1, 0);
        Edge.asks("can, of the last place", () -> Calls.with("b>", "a".repeat(13) + "b"), x -> x.can(), 1, 1);
        Edge.asks("can, of all places", () -> Calls.with("a>", "a".repeat(14)), x -> x.can(), 14, 14);
    }

    @Says("How many STRIKES can be made (none)")
    static void promise16None() {
        Edge.asks("can, DONE", StrikingEdgeTest::finished, x -> x.can(), 0, 0, 0, 0);
        Edge.asks("can, no words", () -> Calls.with("a>;b>"), x -> x.can(), 0, 0, 0);
    }

    @Says("of each RULE how many (no RULES, twelve)")
    static void promise16NoRules() {
        Supplier<StrikeWhatCancels> none = () -> {
            StrikeWhatCancels x = new StrikeWhatCancels();
            x.speak(11);
            x.run(0, 1);
            return x;
        };
        Edge.asks("can, no RULES", none, x -> x.can(), 0);
        Edge.asks("can, twelve RULES", () -> Calls.with("a>;b>;c>;a>;a>;a>;a>;a>;a>;a>;a>;b>", "ab"), x -> x.can(), 11,
            1, 1, 0, 1, 1, 1, 1, 1, 1, 1, 1, 1);
    }

    // ---- promise 17

    private static StrikeWhatCancels game() {
        StrikeWhatCancels x = Calls.with("b>a;ab>;ba>", "bbbbbbb");
        x.run(0, 2);
        x.keep(0);
        return x;
    }

    @Says("n STRIKES (0 .. 7) (0): -2: all can be made; the ROW (for -2, too): CODE of what is there till then.")
    static void promise17None() {
        Edge.asks("judge(0, -1, -1)", StrikingEdgeTest::game, x -> x.judge(0, -1, -1), -2, Calls.code("bbbbbbb"));
        Edge.asks("judge(0, 0, 0) of no words", StrikeWhatCancels::new, x -> x.judge(0, 0, 0), -2, 0);
    }

    @Says("n STRIKES (0 .. 7) (7): 4 in a, then 4 in b, each 8 bits, from the lowest on")
    static void promise17Seven() {
        Edge.asks("the first four", StrikingEdgeTest::game, x -> x.judge(4, 0x60402000, -1), -2, Calls.code("abababa"));
        Edge.asks("the fifth in b", StrikingEdgeTest::game, x -> x.judge(5, 0x60402000, 0x10), -2, Calls.code("aaababa"));
        Edge.asks("all seven", StrikingEdgeTest::game, x -> x.judge(7, 0x60402000, 0x503010), -2, Calls.code("aaaaaaa"));
        Edge.asks("what is told behind them", StrikingEdgeTest::game, x -> x.judge(7, 0x60402000, 0xFF503010), -2,
            Calls.code("aaaaaaa"));
        Edge.asks("one alone", StrikingEdgeTest::game, x -> x.judge(1, 0xFFFFFF60, -1), -2, Calls.code("bbbbbba"));
    }

    @Says("else the number of the first that can't (0 ..)")
    static void promise17TheFirstThatCant() {
        int[] bytes = {0x00, 0x20, 0x40, 0x60, 0x10, 0x30, 0x50};
        String[] there = {"bbbbbbb", "abbbbbb", "ababbbb", "abababb", "abababa", "aaababa", "aaaaaba"};
        for (int k = 0; k < 7; k++) {
            long all = 0;
            for (int j = 0; j < 7; j++) {
                // Place 15 is behind all WORDS.
                all |= (long) (j == k ? 0xF0 : bytes[j]) << 8 * j;
            }
            int a = (int) all;
            int b = (int) (all >>> 32);
            Edge.asks("number " + k + " can't", StrikingEdgeTest::game, x -> x.judge(7, a, b), k, Calls.code(there[k]));
        }
    }

    @Says("RULE (the low 4 bits): one that is none")
    static void promise17NoSuchRule() {
        for (int rule = 3; rule < 16; rule++) {
            int r = rule;
            Edge.asks("RULE " + r, StrikingEdgeTest::game, x -> x.judge(1, r, 0), 0, Calls.code("bbbbbbb"));
        }
        Edge.asks("RULE 0 of none", StrikeWhatCancels::new, x -> x.judge(1, 0, 0), 0, 0);
        StrikeWhatCancels x = Calls.with("a>;a>;a>;a>;a>;a>;a>;a>;a>;a>;a>;b>", "b");
        Calls.due("RULE 11", x.judge(1, 11, 0), -2);
        Calls.due("RULE 12", x.judge(1, 12, 0), 0);
    }

    @Says("place (the high ones): its LEFT does not stand there")
    static void promise17NoSuchPlace() {
        // ab behind bbbbbba is no more; ba stands at 5 alone.
        Edge.asks("ba at 5", StrikingEdgeTest::game, x -> x.judge(2, 0x5260, 0), -2, Calls.code("bbbbb"));
        Edge.asks("ba at 6", StrikingEdgeTest::game, x -> x.judge(2, 0x6260, 0), 1, Calls.code("bbbbbba"));
        Edge.asks("ba at 4", StrikingEdgeTest::game, x -> x.judge(2, 0x4260, 0), 1, Calls.code("bbbbbba"));
        Edge.asks("b at 7", StrikingEdgeTest::game, x -> x.judge(1, 0x70, 0), 0, Calls.code("bbbbbbb"));
    }

    @Says("STRIKES .. in THE SPEECH. Nothing changes.")
    static void promise17InTheSpeech() {
        // CLERK 0 has put a for the first b, and struck it with the next one.
        StrikeWhatCancels x = game();
        Calls.due("THE MINUTES", x.minutes(), Calls.code("bbbbb"));
        Calls.due("b at 6", x.judge(1, 0x60, 0), -2);
        Calls.row(x, Calls.code("bbbbbba"));
        Calls.due("THE MINUTES", x.minutes(), Calls.code("bbbbb"));
        Calls.due("STRIKES to undo", x.count(3), 2);
        Calls.due("THE SPEECH", x.anew(), Calls.code("bbbbbbb"));
    }

    @Says("NONE: others.")
    static void promise17Others() {
        for (int n : new int[] {-1, 8, Integer.MAX_VALUE, Integer.MIN_VALUE}) {
            Edge.stays("judge(" + n + ", 0, 0)", x -> x.judge(n, 0, 0), -1);
        }
    }
}
