/** The boundaries of the Terms that no single promise names. */
public final class TermsEdgeTest {
    public static void main(String[] args) {
        Edge.all(TermsEdgeTest.class);
    }

    @Says("A STRIKE of a SAYING by a RULE at a place 0 ..: its LEFT stands there (the first place, the last one)")
    static void term1Places() {
        StrikeWhatCancels x = Calls.with("ab>", "abcab");
        Calls.due("at 0 and at 3", x.can(), 2);
        Calls.due("at 0", x.judge(1, 0x00, 0), -2);
        Calls.due("at 3", x.judge(1, 0x30, 0), -2);
        for (int place : new int[] {1, 2, 4, 5, 15}) {
            Calls.due("at " + place, x.judge(1, place << 4, 0), 0);
        }
        Calls.due("at 13", Calls.with("b>", "a".repeat(13) + "b").judge(1, 0xD0, 0), -2);
        Calls.due("the whole SAYING", Calls.with("abcde>", "abcde").judge(1, 0, 0), -2);
        Calls.due("less than a LEFT", Calls.with("abcde>", "abcd").judge(1, 0, 0), 0);
    }

    @Says("RIGHT is put for it (none, fewer, as many WORDS)")
    static void term1RightIsPut() {
        StrikeWhatCancels x = Calls.with("cd>;ef>h;gh>aa", "acdbefagh");
        Calls.due("none", x.strike(0), 0);
        Calls.row(x, 1, Calls.code("abefagh"));
        Calls.due("fewer", x.strike(0), 1);
        Calls.row(x, 2, Calls.code("abhagh"));
        Calls.due("as many", x.strike(0), 2);
        Calls.row(x, 4, Calls.code("abhaaa"));
        x = Calls.with("b>", "b");
        Calls.due("all", x.strike(0), 0);
        Calls.row(x, 0, 0);
    }

    @Says("A SAYING is DONE, if there is none. (no WORDS, no RULES)")
    static void term1Done() {
        StrikeWhatCancels x = Calls.with("ab>");
        Calls.due("no WORDS", x.strike(0), -2);
        Calls.due("no WORDS", x.done(0), 0);
        x = new StrikeWhatCancels();
        x.speak(Calls.code("ab"));
        Calls.due("no RULES", x.strike(0), -2);
        Calls.due("no RULES", x.done(0), Calls.code("ab"));
        Calls.due("no RULES", x.done(1), -2);
    }

    @Says("0 STRIKES at the least place, by the first RULE there; 1 at the greatest place, by the first RULE there")
    static void term1ByPlaces() {
        StrikeWhatCancels x = Calls.with("cb>;bb>a;b>", "abbcbb");
        Calls.due("the least place", x.strike(0), 1);
        Calls.row(x, 1, Calls.code("aacbb"));
        x.undo();
        // At 5 b alone can, at 4 bb, too.
        Calls.due("the greatest place", x.strike(1), 2);
        Calls.row(x, 5, Calls.code("abbcb"));
        Calls.speech(x, "abbc");
        Calls.due("the greatest place", x.strike(1), 2);
        Calls.row(x, 2, Calls.code("abc"));
        x = Calls.with("bb>a;b>;bbc>", "abbc");
        Calls.due("the first RULE at the least place", x.strike(0), 0);
        x = Calls.with("bc>a;b>;c>", "abcd");
        Calls.due("the greatest place, though its RULE is the last", x.strike(1), 2);
    }

    @Says("2 by the first RULE that can, at its least place")
    static void term1ByRules() {
        StrikeWhatCancels x = Calls.with("cc>;bb>a;a>", "abbbb");
        Calls.due("by RULE 1", x.strike(2), 1);
        Calls.row(x, 1, Calls.code("aabb"));
        Calls.due("by RULE 1", x.strike(2), 1);
        Calls.row(x, 2, Calls.code("aaa"));
        Calls.due("by RULE 2", x.strike(2), 2);
        Calls.row(x, 0, Calls.code("aa"));
    }

    @Says("3 by a DRAW of all STRIKES that can be (by places, then by RULES)")
    static void term1ByChance() {
        // With R 0 a DRAW makes it 12345, which is 0 by 65536: number 0 of all.
        StrikeWhatCancels x = Calls.with("b>;ab>;a>", "cab");
        x.seed(0);
        Calls.due("the least place, the first RULE there", x.strike(3), 1);
        Calls.row(x, 1, Calls.code("c"));
        x.undo();
        // ab at 1, a at 1, b at 2: number 16838 % 3 is 2.
        x.seed(1);
        Calls.due("the greatest place", x.strike(3), 0);
        Calls.row(x, 2, Calls.code("ca"));
    }

    @Says("R = R times 1103515245 + 12345 (as ints; R at first 1), (R without sign, by 65536) % n")
    static void term1Draw() {
        StrikeWhatCancels x = Calls.with("b>a", "bbbbbbb");
        // 1103527590 by 65536 is 16838, % 7 is 3.
        Calls.due("R at first 1", x.strike(3), 0);
        Calls.row(x, 3, Calls.code("bbbabbb"));
        Calls.due("R then", x.seed(-1), 1103527590);
        x.anew();
        // -1103502900 without sign is 3191464396, by 65536 48697, % 7 is 5.
        Calls.due("R below 0", x.strike(3), 0);
        Calls.row(x, 5, Calls.code("bbbbbab"));
        Calls.due("R then", x.seed(Integer.MIN_VALUE), -1103502900);
        x.anew();
        // -2147483648 times an odd number is -2147483648 as an int; + 12345: 2147495993 without sign, by 65536 32768, % 7 is 1.
        Calls.due("R the least int", x.strike(3), 0);
        Calls.row(x, 1, Calls.code("babbbbb"));
        Calls.due("R then", x.seed(1), Integer.MIN_VALUE + 12345);
    }

    @Says("A DRAW of n (of one; none, where there is no STRIKE)")
    static void term1DrawOfOne() {
        StrikeWhatCancels x = Calls.with("b>a", "b");
        Calls.due("one STRIKE", x.strike(3), 0);
        Calls.due("R has changed", x.seed(5), 1103527590);
        Calls.due("none", x.strike(3), -2);
        Calls.due("none", x.run(3, 500), 0);
        Calls.due("R stays", x.seed(5), 5);
    }

    @Says("A DRAW (by CLERK 3 alone)")
    static void term1DrawByClerk3Alone() {
        StrikeWhatCancels x = Calls.with("b>a", "bbbbbbb");
        for (int clerk = 0; clerk < 3; clerk++) {
            x.strike(clerk);
            x.run(clerk, 1);
        }
        x.clerks();
        x.net();
        Calls.due("R stays", x.seed(1), 1);
    }

    @Says("A SAYING LEADS to another one, if some STRIKES, or none, make that of it.")
    static void term1LeadsToItself() {
        StrikeWhatCancels x = Calls.with("b>a", "ab");
        Calls.due("itself", x.way(Calls.code("ab")), 0);
        Calls.due("another one", x.way(Calls.code("aa")), 1);
        Calls.due("not back", x.way(Calls.code("bb")), -2);
        x.run(0, 1);
        Calls.due("not back", x.way(Calls.code("ab")), -2);
    }

    @Says("Two MEET, if both LEAD to some SAYING. (one of them, or a third)")
    static void term1Meet() {
        StrikeWhatCancels x = Calls.with("b>a;c>a;e>d");
        Calls.due("itself", x.meet(4, 4), 1);
        Calls.due("one of them", x.meet(5, 4), 1);
        Calls.due("a third", x.meet(2, 3), 1);
        Calls.row(x, 1);
        Calls.due("none", x.meet(2, 5), 0);
    }

    @Says("Rows of numbers are compared from the first on.")
    static void term2RowsAreCompared() {
        // To a: RULE 0 at 1, then RULE 1 at 0; or RULE 1 at 0, then RULE 0 at 0: the first is less.
        StrikeWhatCancels x = Calls.with("b>;cc>a", "ccb");
        Calls.due("way", x.way(1), 2);
        Calls.row(x, 0, 2, 1, 0);
        Calls.due("the other RULE first", x.swap(0, 1), true);
        Calls.due("way", x.way(1), 2);
        Calls.row(x, 0, 0, 1, 1);
    }

    @Says("A search that comes to more than 3000 SAYINGS answers -3. (3000 are not)")
    static void term2Search() {
        StrikeWhatCancels x = Calls.with(Edge.SEVEN, "fdeee");
        Calls.due("3000", x.net(), 3000);
        Calls.book(x, "fdeee>");
        Calls.due("3001", x.net(), -3);
    }

    @Says("Refused calls answer NONE, or false, and change nothing")
    static void term2Refused() {
        Edge.stays("strike(4)", x -> x.strike(4), -1);
        Edge.stays("run(0, 501)", x -> x.run(0, 501), -1);
        Edge.stays("judge(8, 0, 0)", x -> x.judge(8, 0, 0), -1);
        Edge.stays("done(-1)", x -> x.done(-1), -1);
        Edge.stays("way(9)", x -> x.way(9), -1);
        Edge.stays("ways(9)", x -> x.ways(9), -1);
        Edge.stays("meet(9, 1)", x -> x.meet(9, 1), -1);
        Edge.stays("overlap(-1)", x -> x.overlap(-1), -1);
        Edge.stays("complete(13)", x -> x.complete(13), -1);
        Edge.stays("same(9, 1)", x -> x.same(9, 1), -1);
        Edge.stays("between(1, 1, 9)", x -> x.between(1, 1, 9), -1);
        Edge.stays("come(3, 1, 1)", x -> x.come(3, 1, 1), -1);
        Edge.stays("shortest(3, 1)", x -> x.shortest(3, 1), -1);
        Edge.stays("longest(3, 1)", x -> x.longest(3, 1), -1);
        Edge.stays("still(21)", x -> x.still(21), -1);
        Edge.stays("sorts(3, 1)", x -> x.sorts(3, 1), -1);
        Edge.stays("quarrels(15)", x -> x.quarrels(15), -1);
        Edge.stays("keep(3)", x -> x.keep(3) ? 1 : 0, 0);
        Edge.stays("again(0)", x -> x.again(0) ? 1 : 0, 0);
        Edge.stays("count(7)", x -> x.count(7), -1);
    }

    @Says("THE ROW: numbers told last by a call that says so (others leave it)")
    static void term2CallsWithoutARow() {
        StrikeWhatCancels x = Edge.busy();
        String row = Edge.rowOf(x);
        x.book();
        x.weigh(0, 1);
        x.sheet(0, 8, 1, 0);
        x.wide(2);
        x.swap(0, 1);
        x.undo();
        x.done(0);
        x.idle();
        x.still(4);
        x.seed(1);
        x.keep(0);
        x.again(0);
        x.anew();
        x.speak(11);
        x.speech();
        x.rule(0, 0);
        x.minutes();
        Calls.due("the ROW", Edge.rowOf(x), row);
    }

    @Says("An object is used for at most 512 calls")
    static void term2FiveHundredAndTwelveCalls() {
        StrikeWhatCancels x = new StrikeWhatCancels();
        x.sign(0x623E6100);
        x.end(3);
        x.book();
        for (int call = 4; call <= 510; call++) {
            x.speak(call % 2 == 0 ? 2 : 1);
        }
        Calls.due("call 511", x.speak(2), 1);
        Calls.due("call 512", x.strike(0), 0);
    }
}
