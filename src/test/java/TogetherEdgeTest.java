import java.util.Arrays;

/** What one call leaves for another: RULES and WIDE that change, THE MINUTES gone back, what is kept and told. */
public final class TogetherEdgeTest {
    public static void main(String[] args) {
        Edge.all(TogetherEdgeTest.class);
    }

    private static long code(String words) {
        return Calls.code(words);
    }

    // ---- a RULE more, and RULES that change their places

    @Says("THE TEXT tells RULES behind those there are (all that can come of THE MINUTES, asked before and behind)")
    static void promise04ThenNet() {
        StrikeWhatCancels x = Calls.with("b>a", "bb");
        Calls.due("net", x.net(), 4);
        Calls.row(x, 1, 2, 2);
        Calls.due("ways", x.ways(code("aa")), 2);
        Calls.due("done(0)", x.done(0), code("aa"));
        Calls.book(x, "aa>");
        Calls.due("net with one more", x.net(), 5);
        Calls.row(x, 1, 3, 3);
        Calls.due("done(0)", x.done(0), 0);
        Calls.due("ways", x.ways(0), 2);
        Calls.due("meet", x.meet(code("bb"), 0), 1);
        Calls.book(x, "bb>");
        Calls.due("ways", x.ways(0), 3);
        Calls.due("net", x.net(), 5);
        Calls.row(x, 1, 3, 1);
    }

    @Says("Nothing of it comes, if a LINE can't (what was asked before is answered alike behind it)")
    static void promise04RefusedThenNet() {
        StrikeWhatCancels x = Calls.with("b>a", "bb");
        Calls.due("net", x.net(), 4);
        Calls.due("book", Calls.book(x, "aa>;a=0"), -1 - 6);
        Calls.due("net", x.net(), 4);
        Calls.row(x, 1, 2, 2);
        Calls.due("complete(12)", x.complete(12), 0);
        Calls.due("longest(0, 2)", x.longest(0, 2), 2);
    }

    @Says("Two RULES change their places (the way is told by their numbers)")
    static void promise11ThenWay() {
        StrikeWhatCancels x = Calls.with("c>b;b>a", "c");
        Calls.due("way", x.way(1), 2);
        Calls.row(x, 0, 0, 1, 0);
        Calls.due("swap", x.swap(0, 1), true);
        Calls.due("way", x.way(1), 2);
        Calls.row(x, 1, 0, 0, 0);
        Calls.due("swap", x.swap(1, 0), true);
        Calls.due("way", x.way(1), 2);
        Calls.row(x, 0, 0, 1, 0);
    }

    @Says("Two RULES change their places (overlaps, idle, lessens, weights)")
    static void promise11ThenOverlaps() {
        StrikeWhatCancels x = Calls.with("ab>;b>;ab>a");
        Calls.due("overlap(0)", x.overlap(0), 0);
        // ab comes to none by RULE 0, and to a by RULE 1.
        Calls.row(x, 0, 1, 11, code("ab"), 0, 1);
        Calls.due("idle", x.idle(), 1 << 2);
        Calls.due("lessens", x.lessens(), 1);
        Calls.row(x, 1, 1);
        Calls.due("weights", x.weights(), 1);
        Calls.due("swap", x.swap(0, 1), true);
        Calls.due("overlap(0)", x.overlap(0), 0);
        Calls.row(x, 1, 0, 11, code("ab"), 0, 1);
        Calls.due("idle", x.idle(), 1 << 2);
        Calls.due("lessens", x.lessens(), 1);
        Calls.row(x, 0, 1);
        Calls.due("swap", x.swap(0, 2), true);
        Calls.due("idle", x.idle(), 1);
        Calls.due("weights", x.weights(), 1);
        Calls.row(x, 1, 1, 1, 1, 1, 1, 1, 1);
    }

    @Says("Two RULES change their places (what a CLERK leaves of all SAYINGS)")
    static void promise11ThenSorts() {
        StrikeWhatCancels x = Calls.with("aa>b;aa>");
        x.wide(1);
        Calls.due("come to b", x.come(0, 2, 2), 1);
        Calls.due("longest", x.longest(0, 4), 2);
        Calls.due("sorts", x.sorts(0, 4), 1);
        Calls.row(x, code("bb"), 1);
        Calls.due("swap", x.swap(0, 1), true);
        Calls.due("come to b", x.come(0, 2, 2), 0);
        Calls.due("come to none", x.come(0, 2, 0), 1);
        Calls.due("sorts", x.sorts(0, 4), 1);
        Calls.row(x, 0, 1);
        Calls.due("shortest", x.shortest(0, 1), 3);
        Calls.row(x, code("aaa"));
    }

    @Says("RULES are added aside, each time the first OVERLAP tells (RULES told, changed between two calls)")
    static void promise29BehindOtherRules() {
        StrikeWhatCancels x = Calls.with("gh>b;gh>a");
        Calls.due("complete(12)", x.complete(12), 1);
        Calls.row(x, 2, 1);
        Calls.due("same", x.same(2, 1), 1);
        Calls.book(x, "a>");
        Calls.due("same, with one more", x.same(2, 0), 1);
        Calls.row(x, 0, 0);
        // gh comes to b, and by a to none.
        Calls.due("complete(12)", x.complete(12), 1);
        Calls.row(x, 2, 0);
        Calls.due("swap", x.swap(1, 2), true);
        Calls.due("complete(0)", x.complete(0), -2);
        Calls.row(x);
        Calls.due("complete(1)", x.complete(1), 1);
        Calls.row(x, 2, 0);
        Calls.book(x, "b>a");
        Calls.due("complete(12)", x.complete(12), 0);
        Calls.due("same", x.same(code("gh"), 0), 1);
    }

    @Says("The least row of WEIGHTS with which each RULE makes less (RULES told between two calls)")
    static void promise28BehindOtherRules() {
        StrikeWhatCancels x = Calls.with("b>a");
        Calls.due("weights", x.weights(), 1);
        Calls.row(x, 1, 2, 1, 1, 1, 1, 1, 1);
        Calls.book(x, "c>b");
        Calls.due("weights", x.weights(), 1);
        Calls.row(x, 1, 2, 3, 1, 1, 1, 1, 1);
        Calls.book(x, "ca>ac");
        Calls.due("weights", x.weights(), 0);
        Calls.row(x);
        Calls.due("weights, once more", x.weights(), 0);
    }

    // ---- searches one behind the other

    @Says("would MEET by the other RULES alone (THE MINUTES are the LEFT that is asked)")
    static void promise26ThenNet() {
        StrikeWhatCancels x = Calls.with("ba>a;b>", "ba");
        for (int k = 0; k < 3; k++) {
            Calls.due("net", x.net(), 2);
            Calls.due("idle", x.idle(), 1);
            Calls.due("ways", x.ways(1), 2);
            Calls.due("idle", x.idle(), 1);
            Calls.due("way", x.way(1), 1);
            Calls.row(x, 0, 0);
        }
    }

    @Says("STRIKES and STRIKES turned round (nothing of it is left for a search by STRIKES alone)")
    static void promise31ThenNet() {
        StrikeWhatCancels x = Calls.with("b>a;c>a", "b");
        for (int k = 0; k < 2; k++) {
            Calls.due("between", x.between(2, 3, 1), 2);
            Calls.row(x, 1, 3);
            Calls.due("way", x.way(3), -2);
            Calls.row(x, 1, 3);
            Calls.due("net", x.net(), 2);
            Calls.due("between, none", x.between(2, 4, 1), -2);
            Calls.due("meet", x.meet(2, 3), 1);
            Calls.row(x, 1);
        }
    }

    @Says("-3 (of one search, nothing of it is left for the next one)")
    static void promise18TooManyThenFew() {
        StrikeWhatCancels x = Calls.with(Edge.SEVEN, "gggg");
        Calls.due("7 times 7 times 7 times 7", x.net(), 2401);
        Calls.due("7 times as many", x.meet(code("hhhh"), code("ggggg")), -3);
        Calls.due("net", x.net(), 2401);
        Calls.due("done", x.done(0), code("aaaa"));
        Calls.speech(x, "ggggg");
        Calls.due("done", x.done(0), -3);
        Calls.due("way", x.way(code("ggggg")), -3);
        Calls.due("meet", x.meet(code("g"), code("f")), 1);
        Calls.due("net", x.net(), -3);
        Calls.speech(x, "b");
        Calls.due("net", x.net(), 2);
        Calls.row(x, 1, 1, 1);
    }

    // ---- THE MINUTES gone back

    @Says("The latest STRIKE in THE MINUTES is undone (all that can come of them is asked on both sides)")
    static void promise14ThenNet() {
        StrikeWhatCancels x = Calls.with("b>a", "bbb");
        Calls.due("net", x.net(), 8);
        x.strike(1);
        Calls.due("net", x.net(), 4);
        Calls.due("way", x.way(code("bbb")), -2);
        x.undo();
        Calls.due("net", x.net(), 8);
        Calls.due("way", x.way(code("bbb")), 0);
        x.run(0, 3);
        Calls.due("net", x.net(), 1);
        x.anew();
        Calls.due("ways", x.ways(code("aaa")), 6);
        Calls.due("can", x.can(), 3);
    }

    @Says("The latest STRIKE is undone (R stays as the DRAW left it)")
    static void promise14StaysDrawn() {
        StrikeWhatCancels x = Calls.with("b>a", "bbbb");
        Calls.due("by chance", x.strike(3), 0);
        Calls.due("undo", x.undo(), 0);
        int r = x.seed(0);
        Calls.due("R", r, 1103515245 + 12345);
        x.seed(r);
        x.anew();
        Calls.due("R behind anew", x.seed(1), r);
    }

    @Says("THE MINUTES are THE SPEECH again; in THE SPEECH (judge) (whatever was struck)")
    static void promise17BehindStrikes() {
        StrikeWhatCancels x = Calls.with("b>a", "bb");
        x.run(0, 2);
        Calls.due("judge", x.judge(2, 0x1000, 0), -2);
        Calls.row(x, code("aa"));
        Calls.due("THE MINUTES", x.minutes(), code("aa"));
        Calls.due("to undo", x.count(3), 2);
        x.speak(1);
        Calls.due("judge", x.judge(1, 0, 0), 0);
        Calls.row(x, 1);
    }

    // ---- WIDE, WEIGHTS, and what is kept

    @Says("WIDE becomes v (questions about all SAYINGS, asked before and behind)")
    static void promise10ThenSorts() {
        StrikeWhatCancels x = Calls.with("cb>a;b>a");
        for (int k = 0; k < 2; k++) {
            x.wide(3);
            Calls.due("come", x.come(0, 1, 1), 2);
            Calls.due("sorts", x.sorts(0, 1), 2);
            Calls.row(x, 1, 2);
            Calls.due("still", x.still(2), 4);
            x.wide(1);
            Calls.due("come", x.come(0, 1, 1), 1);
            Calls.due("sorts", x.sorts(0, 1), 1);
            Calls.row(x, 1, 1);
            Calls.due("still", x.still(2), 1);
            x.wide(8);
            Calls.due("sorts", x.sorts(0, 1), 7);
            Calls.due("still", x.still(1), 7);
            // From the left cb comes to a, from the right to ca.
            Calls.due("quarrels", x.quarrels(2), 1);
            Calls.row(x, code("cb"));
        }
    }

    @Says("They are as they were kept (WIDE and WEIGHTS that questions hang on)")
    static void promise40ThenQuestions() {
        StrikeWhatCancels x = Calls.with("b>a", "b");
        x.wide(2);
        x.weigh(1, 5);
        x.keep(0);
        Calls.due("lessens", x.lessens(), 1);
        Calls.row(x, 0, 4);
        Calls.due("sorts", x.sorts(2, 2), 1);
        x.wide(4);
        x.weigh(0, 9);
        x.speak(0);
        Calls.due("lessens", x.lessens(), 0);
        Calls.row(x, 0, -4);
        Calls.due("sorts", x.sorts(2, 2), 9);
        Calls.due("net", x.net(), 1);
        Calls.due("again", x.again(0), true);
        Calls.due("lessens", x.lessens(), 1);
        Calls.row(x, 0, 4);
        Calls.due("sorts", x.sorts(2, 2), 1);
        Calls.due("net", x.net(), 2);
    }

    @Says("They are as they were kept (changed behind again(), they are so the second time, too)")
    static void promise40Twice() {
        StrikeWhatCancels x = Calls.with("b>a", "bb");
        x.strike(1);
        x.keep(2);
        for (int k = 0; k < 3; k++) {
            Calls.due("again", x.again(2), true);
            Calls.due("THE MINUTES", x.minutes(), code("ba"));
            Calls.due("WEIGHTS", Edge.weightsOf(x), "11111111");
            Calls.due("R, WIDE", x.seed(5) + x.wide(6), 1 + 3);
            x.sheet(0, 8, 2, 1);
            x.strike(0);
            Calls.due("undo", x.undo(), 0);
            Calls.due("undo", x.undo(), -1);
            x.speak(0);
        }
    }

    @Says("again: no STRIKE can be undone then (those made behind it can)")
    static void promise40StrikesBehind() {
        StrikeWhatCancels x = Calls.with("b>a", "bbb");
        x.keep(0);
        x.run(0, 2);
        x.again(0);
        x.strike(1);
        Calls.due("to undo", x.count(3), 1);
        Calls.due("undo", x.undo(), 0);
        Calls.due("THE MINUTES", x.minutes(), code("bbb"));
        Calls.due("undo", x.undo(), -1);
    }

    // ---- the ROW, THE TEXT

    @Says("numbers told last by a call that says so (a shorter ROW behind a longer one, none behind one)")
    static void term2RowBehindRow() {
        StrikeWhatCancels x = Calls.with("aa>b;ba>a", "aab");
        Calls.due("weights", x.weights(), 1);
        Calls.due("eight", x.count(5), 8);
        x.strike(0);
        Calls.row(x, 0, code("bb"));
        Calls.due("meet", x.meet(1, 2), 0);
        Calls.row(x);
        Calls.due("done(1), not so many", x.done(1), -2);
        Calls.row(x);
        Calls.due("clerks", x.clerks(), 1);
        Calls.row(x, code("bb"), code("bb"), code("bb"), 0, 0, 0);
        Calls.due("way", x.way(code("bb")), 0);
        Calls.row(x);
    }

    @Says("THE TEXT, which a call that reads it empties (no other call does)")
    static void term2TheTextStays() {
        StrikeWhatCancels x = Calls.with("b>a", "bb");
        Calls.text(x, "ab>");
        x.strike(0);
        x.undo();
        x.anew();
        x.speak(code("bbb"));
        x.keep(0);
        x.again(0);
        x.net();
        x.complete(12);
        x.come(0, 2, 1);
        x.sheet(3, 0, 0, 0);
        Calls.due("signs", x.count(6), 3);
        Calls.due("speech, which can't be", x.speech(), -1 - 2);
        Calls.due("signs", x.count(6), 0);
        Calls.due("book of no text", x.book(), 0);
        Calls.due("THE SPEECH", x.count(1), 3);
        Calls.due("speech of no text", x.speech(), 0);
        Calls.due("THE SPEECH", x.count(1), 0);
    }

    @Says("Refused calls change nothing (in the midst of what is asked)")
    static void term2RefusedBetween() {
        StrikeWhatCancels x = Calls.with("b>a;a>", "bab");
        String plain = answers(x);
        x.speak(9);
        x.weigh(8, 1);
        x.wide(9);
        x.swap(0, 2);
        x.between(9, 1, 8);
        x.meet(1, 9);
        x.complete(13);
        x.same(-1, 0);
        x.come(0, 15, 1);
        x.keep(3);
        x.again(0);
        Calls.due("answers", answers(x), plain);
    }

    private static String answers(StrikeWhatCancels x) {
        long[] all = {x.net(), x.done(0), x.way(0), x.ways(0), x.clerks(), x.meet(1, 2), x.overlaps(), x.idle(), x.lessens(),
            x.weights(), x.complete(3), x.same(1, 2), x.between(1, 2, 3), x.come(0, 3, 0), x.longest(1, 3), x.still(3),
            x.sorts(2, 3), x.quarrels(3), x.count(0), x.count(1), x.count(2), x.count(3), x.count(4), x.minutes()};
        return Arrays.toString(all);
    }
}
