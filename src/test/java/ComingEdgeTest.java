import java.util.function.Supplier;

/** The boundaries of promises 18 to 23. */
public final class ComingEdgeTest {
    public static void main(String[] args) {
        Edge.all(ComingEdgeTest.class);
    }

    /** THE MINUTES lead to 3000 SAYINGS. */
    private static StrikeWhatCancels full() {
        StrikeWhatCancels x = Calls.with(Edge.SEVEN, "fdeee");
        x.can();
        return x;
    }

    /** THE MINUTES lead to 3001 SAYINGS: to no words, too. */
    private static StrikeWhatCancels overfull() {
        StrikeWhatCancels x = full();
        Calls.book(x, "fdeee>");
        x.can();
        return x;
    }

    private static Supplier<StrikeWhatCancels> made(String rules, String words) {
        return () -> Calls.with(rules, words);
    }

    /** A SAYING of these words that is DONE, with a ROW that is not empty. */
    private static StrikeWhatCancels finished() {
        StrikeWhatCancels x = Calls.with("b>a;ab>", "bb");
        x.run(1, 500);
        return x;
    }

    // ---- promise 18

    @Says("How many SAYINGS they LEAD to (itself, too); the ROW: how many of them are DONE, the most, the fewest STRIKES")
    static void promise18Net() {
        // ab, aa, a, and none.
        Edge.asks("net", made("b>a;ab>;aa>a", "ab"), x -> x.net(), 4, 2, 2, 1);
    }

    @Says("(itself, too)")
    static void promise18ItselfAlone() {
        Edge.asks("net of what is DONE", ComingEdgeTest::finished, x -> x.net(), 1, 1, 0, 0);
        Edge.asks("net of no words", StrikeWhatCancels::new, x -> x.net(), 1, 1, 0, 0);
        Edge.asks("net without RULES", () -> {
            StrikeWhatCancels x = new StrikeWhatCancels();
            x.speak(Calls.code("abc"));
            return x;
        }, x -> x.net(), 1, 1, 0, 0);
    }

    @Says("the most, the fewest STRIKES till one is (equal, unlike)")
    static void promise18MostAndFewest() {
        Edge.asks("equal", made("b>a", "bbb"), x -> x.net(), 8, 1, 3, 3);
        // d to c to b to a; or d to none at once.
        Edge.asks("unlike", made("d>c;c>b;b>a;d>", "d"), x -> x.net(), 5, 2, 3, 1);
    }

    @Says("A search that comes to more than 3000 SAYINGS answers -3. (3000)")
    static void promise18ThreeThousand() {
        // f 5, d 3, e 4 STRIKES each.
        Edge.asks("net", ComingEdgeTest::full, x -> x.net(), 3000, 1, 5 + 3 + 3 * 4, 5 + 3 + 3 * 4);
    }

    @Says("A search that comes to more than 3000 SAYINGS answers -3. (3001)")
    static void promise18MoreThanThreeThousand() {
        Edge.stays("net", ComingEdgeTest::overfull, x -> x.net(), -3);
        Edge.stays("net of many more", made(Edge.SEVEN, "g".repeat(14)), x -> x.net(), -3);
    }

    @Says("SAYINGS they LEAD to (of THE MINUTES, not of THE SPEECH)")
    static void promise18OfTheMinutes() {
        StrikeWhatCancels x = overfull();
        x.strike(2);
        Calls.due("a WORD less", x.minutes(), Calls.code("edeee"));
        Calls.due("net", x.net(), 5 * 4 * 5 * 5 * 5);
    }

    // ---- promise 19

    @Says("The DONE SAYING number k (0 .., the one AHEAD of all first): its CODE.")
    static void promise19Done() {
        // aaaa leads to baa, aba, aab; these to bb, a.
        Edge.stays("done(0)", made("aa>b;ab>", "aaaa"), x -> x.done(0), 1);
        Edge.stays("done(1)", made("aa>b;ab>", "aaaa"), x -> x.done(1), Calls.code("bb"));
        Edge.stays("done(2)", made("aa>b;ab>", "aaaa"), x -> x.done(2), -2);
    }

    @Says("(0 .., the one AHEAD of all first)")
    static void promise19TheOneAheadFirst() {
        Supplier<StrikeWhatCancels> four = made("hg>b;hg>;hg>a;hg>ab", "hg");
        long[] due = {0, 1, 2, Calls.code("ab")};
        for (int k = 0; k < due.length; k++) {
            int n = k;
            Edge.stays("done(" + n + ")", four, x -> x.done(n), due[n]);
        }
    }

    @Says("-2: there are not so many")
    static void promise19NotSoMany() {
        Supplier<StrikeWhatCancels> four = made("hg>b;hg>;hg>a;hg>ab", "hg");
        for (int k : new int[] {4, 5, Integer.MAX_VALUE}) {
            Edge.stays("done(" + k + ")", four, x -> x.done(k), -2);
        }
        Edge.stays("done(0) of what is DONE", ComingEdgeTest::finished, x -> x.done(0), Calls.code("aa"));
        Edge.stays("done(1) of what is DONE", ComingEdgeTest::finished, x -> x.done(1), -2);
        Edge.stays("done(1) of no words", StrikeWhatCancels::new, x -> x.done(1), -2);
    }

    @Says("-3")
    static void promise19TooMany() {
        Edge.stays("done(0) of 3000", ComingEdgeTest::full, x -> x.done(0), Calls.code("aaaaa"));
        Edge.stays("done(1) of 3000", ComingEdgeTest::full, x -> x.done(1), -2);
        Edge.stays("done(0) of 3001", ComingEdgeTest::overfull, x -> x.done(0), -3);
        Edge.stays("done(2) of 3001", ComingEdgeTest::overfull, x -> x.done(2), -3);
    }

    @Says("NONE: k below 0.")
    static void promise19BelowZero() {
        for (int k : new int[] {-1, -2, Integer.MIN_VALUE}) {
            Edge.stays("done(" + k + ")", x -> x.done(k), -1);
            Edge.stays("done(" + k + ") of 3001", ComingEdgeTest::overfull, x -> x.done(k), -1);
            Edge.stays("done(" + k + ") of what is DONE", ComingEdgeTest::finished, x -> x.done(k), -1);
        }
    }

    // ---- promise 20

    @Says("The fewest STRIKES by which they come to a SAYING: how many; the ROW: of each STRIKE RULE, place")
    static void promise20Way() {
        // cb to ab is one, to bb and on to ab are two.
        Edge.asks("way", made("c>b;b>a;c>a", "cb"), x -> x.way(Calls.code("ab")), 1, 2, 0);
        Edge.asks("way", made("c>b;b>a;c>a", "cb"), x -> x.way(Calls.code("aa")), 2, 1, 1, 2, 0);
    }

    @Says("The fewest STRIKES (none: to itself)")
    static void promise20ToItself() {
        Edge.asks("way", Edge::busy, x -> x.way(x.minutes()), 0);
        Edge.asks("way of no words", () -> {
            StrikeWhatCancels x = new StrikeWhatCancels();
            x.run(0, 1);
            return x;
        }, x -> x.way(0), 0);
    }

    @Says("(at most the first 8 STRIKES) (8)")
    static void promise20Eight() {
        Edge.asks("way of eight", made("b>a", "bbbbbbbb"), x -> x.way(Calls.code("aaaaaaaa")), 8,
            0, 0, 0, 1, 0, 2, 0, 3, 0, 4, 0, 5, 0, 6, 0, 7);
        Edge.asks("way of seven", made("b>a", "bbbbbbbb"), x -> x.way(Calls.code("aaaaaaab")), 7,
            0, 0, 0, 1, 0, 2, 0, 3, 0, 4, 0, 5, 0, 6);
    }

    @Says("(at most the first 8 STRIKES) (9 and more)")
    static void promise20Nine() {
        Edge.asks("way of nine", made("b>a", "abbbbbbbbb"), x -> x.way(Calls.code("aaaaaaaaaa")), 9,
            0, 1, 0, 2, 0, 3, 0, 4, 0, 5, 0, 6, 0, 7, 0, 8);
        Edge.asks("way of eleven", made("b>a", "bbbbbbbbbbb"), x -> x.way(Calls.code("aaaaaaaaaaa")), 11,
            0, 0, 0, 1, 0, 2, 0, 3, 0, 4, 0, 5, 0, 6, 0, 7);
    }

    @Says("of as few the least row")
    static void promise20TheLeastRow() {
        // Places are compared where RULES are alike, RULES ahead of places.
        Edge.asks("by places", made("aa>a", "aaa"), x -> x.way(1), 2, 0, 0, 0, 0);
        Edge.asks("by RULES", made("ca>a;ac>a;a>", "cac"), x -> x.way(1), 2, 0, 0, 1, 0);
        Edge.asks("RULES ahead of places", made("c>a;b>a", "bc"), x -> x.way(Calls.code("aa")), 2, 0, 1, 1, 0);
        // By RULE 0 first it comes to a, and not on.
        Edge.asks("not where it does not come", made("db>a;db>c;c>", "db"), x -> x.way(0), 2, 1, 0, 2, 0);
    }

    @Says("-2: they do not")
    static void promise20TheyDoNot() {
        for (String words : new String[] {"", "h", "cba", "dbbaaccd", "dbbaaccdd", "hhhhhhhhhhhhhh"}) {
            Edge.stays("way to " + words, x -> x.way(Calls.code(words)), -2);
        }
        Edge.stays("way of no words", StrikeWhatCancels::new, x -> x.way(1), -2);
    }

    @Says("-3")
    static void promise20TooMany() {
        Edge.asks("way of 3000", ComingEdgeTest::full, x -> x.way(Calls.code("fdeed")), 1, 2, 4);
        Edge.stays("way of 3000", ComingEdgeTest::full, x -> x.way(0), -2);
        Edge.stays("way of 3001", ComingEdgeTest::overfull, x -> x.way(Calls.code("aaaaa")), -3);
        Edge.stays("way of 3001", ComingEdgeTest::overfull, x -> x.way(Calls.code("h")), -3);
    }

    @Says("A search that comes to more than 3000 SAYINGS answers -3. (near as the goal may be)")
    static void promise20TooManyThoughNear() {
        Edge.stays("way of 3001", ComingEdgeTest::overfull, x -> x.way(Calls.code("fdeed")), -3);
        Edge.stays("way of 3001", ComingEdgeTest::overfull, x -> x.way(x.minutes()), -3);
    }

    @Says("NONE: no SAYING has it.")
    static void promise20NoSaying() {
        for (long code : new long[] {-1, 9, 90, 22876792454961L, Long.MIN_VALUE, Long.MAX_VALUE}) {
            Edge.stays("way(" + code + ")", x -> x.way(code), -1);
            Edge.stays("way(" + code + ") of 3001", ComingEdgeTest::overfull, x -> x.way(code), -1);
        }
    }

    // ---- promise 21

    @Says("How many unlike ways (rows of STRIKES) lead from them to a SAYING; the ROW: how many to all DONE SAYINGS together.")
    static void promise21Ways() {
        // bbb: 3 times 2 times 1 rows of STRIKES.
        Edge.asks("ways", made("b>a", "bbb"), x -> x.ways(Calls.code("aaa")), 6, 6);
        Edge.asks("ways", made("b>a", "bbb"), x -> x.ways(Calls.code("aba")), 2, 6);
        Edge.asks("ways", made("b>a;ab>", "bb"), x -> x.ways(0), 1, 1 + 2);
    }

    @Says("How many unlike ways (one: none to itself)")
    static void promise21ToItself() {
        Edge.asks("ways", made("b>a", "bbb"), x -> x.ways(Calls.code("bbb")), 1, 6);
        Edge.asks("ways of what is DONE", ComingEdgeTest::finished, x -> x.ways(Calls.code("aa")), 1, 1);
        Edge.asks("ways of no words", StrikeWhatCancels::new, x -> x.ways(0), 1, 1);
    }

    @Says("unlike ways (STRIKES are unlike by RULE, by place)")
    static void promise21Unlike() {
        Edge.asks("like RULES", made("b>a;b>a", "b"), x -> x.ways(1), 2, 2);
        Edge.asks("two places, one SAYING", made("aa>a", "aaa"), x -> x.ways(Calls.code("aa")), 2, 2);
    }

    @Says("-2: none")
    static void promise21None() {
        for (String words : new String[] {"", "h", "cba", "dbbaaccd", "dbbaaccdd", "hhhhhhhhhhhhhh"}) {
            Edge.stays("ways to " + words, x -> x.ways(Calls.code(words)), -2);
        }
    }

    @Says("-3")
    static void promise21TooMany() {
        StrikeWhatCancels x = full();
        Calls.due("ways of 3000", x.ways(Calls.code("fdeee")), 1);
        Calls.due("numbers of the ROW", x.count(5), 1);
        Calls.due("ways of 3000", x.ways(Calls.code("fdedd")), 2);
        // 20 STRIKES, of which 5, 3, 4, 4, 4 have to stay in their order, are in so many orders.
        Calls.due("net", x.net(), 3000);
        Calls.due("ways of 3000", x.ways(Calls.code("aaaaa")), 244432188000L);
        Calls.row(x, 244432188000L);
        Calls.due("net behind ways", x.net(), 3000);
        Calls.row(x, 1, 20, 20);
        Edge.stays("ways of 3000", ComingEdgeTest::full, y -> y.ways(0), -2);
        Edge.stays("ways of 3001", ComingEdgeTest::overfull, y -> y.ways(0), -3);
        Edge.stays("ways of 3001", ComingEdgeTest::overfull, y -> y.ways(y.minutes()), -3);
        Edge.stays("ways of 3001", ComingEdgeTest::overfull, y -> y.ways(8), -3);
    }

    @Says("NONE: no SAYING has it.")
    static void promise21NoSaying() {
        for (long code : new long[] {-1, 9, 90, 22876792454961L, Long.MIN_VALUE, Long.MAX_VALUE}) {
            Edge.stays("ways(" + code + ")", x -> x.ways(code), -1);
            Edge.stays("ways(" + code + ") of 3001", ComingEdgeTest::overfull, x -> x.ways(code), -1);
        }
    }

    @Says("How many unlike ways (more than an int has)")
    static void promise21ManyWays() {
        // Fourteen b, in any order: 14 times 13 times .. 1; but they lead to 16384 SAYINGS. Eleven: 2048.
        Edge.asks("ways", made("b>a", "b".repeat(11)), x -> x.ways(Calls.code("a".repeat(11))), 39916800, 39916800);
        // Each of the eleven STRIKES by one or the other of two RULES.
        Edge.asks("ways", made("b>a;b>a", "b".repeat(11)), x -> x.ways(Calls.code("a".repeat(11))), 39916800L << 11,
            39916800L << 11);
    }

    // ---- promise 22

    @Says("What each CLERK 0, 1, 2 leaves of them: how many unlike ones; the ROW: CODES of three, STRIKES of three.")
    static void promise22Clerks() {
        long aa = Calls.code("aa");
        Edge.asks("one", made("b>a", "bb"), x -> x.clerks(), 1, aa, aa, aa, 2, 2, 2);
        Edge.asks("CLERKS 0 and 2 alike", made("aa>b", "aaa"), x -> x.clerks(), 2,
            Calls.code("ba"), Calls.code("ab"), Calls.code("ba"), 1, 1, 1);
        // By the last RULE from the left, by the first from the right.
        Edge.asks("CLERKS 1 and 2 alike", made("ab>c;aa>b", "aab"), x -> x.clerks(), 2,
            Calls.code("bb"), Calls.code("ac"), Calls.code("ac"), 1, 1, 1);
        Edge.asks("CLERKS 0 and 1 alike", made("bc>g;ab>;cd>;abcd>", "abcd"), x -> x.clerks(), 2,
            0, 0, Calls.code("agd"), 2, 2, 1);
        Edge.asks("three", made("bc>g;abc>e;cd>f", "abcd"), x -> x.clerks(), 3,
            Calls.code("ed"), Calls.code("abf"), Calls.code("agd"), 1, 1, 1);
    }

    @Says("STRIKES of three (none)")
    static void promise22NoStrikes() {
        long aa = Calls.code("aa");
        Edge.asks("clerks of what is DONE", ComingEdgeTest::finished, x -> x.clerks(), 1, aa, aa, aa, 0, 0, 0);
        Edge.asks("clerks of no words", StrikeWhatCancels::new, x -> x.clerks(), 1, 0, 0, 0, 0, 0, 0);
    }

    @Says("What each CLERK leaves (where a search would be too much)")
    static void promise22NoSearch() {
        long all = Calls.code("a".repeat(14));
        Edge.asks("clerks", made(Edge.SEVEN, "g".repeat(14)), x -> x.clerks(), 1, all, all, all, 84, 84, 84);
    }

    // ---- promise 23

    @Says("Whether two SAYINGS MEET: 1; the ROW: CODE of the SAYING that both LEAD to which is AHEAD of all such")
    static void promise23Meet() {
        // dc and cd both lead to cc, cb, bc, bb.
        Edge.asks("meet", made("d>c;c>b", ""), x -> x.meet(Calls.code("dc"), Calls.code("cd")), 1, Calls.code("bb"));
        Edge.asks("meet, itself", made("b>a", ""), x -> x.meet(8, 8), 1, 8);
        Edge.asks("meet, no words", made("ab>", ""), x -> x.meet(0, Calls.code("ab")), 1, 0);
        Edge.asks("meet, no words at all", StrikeWhatCancels::new, x -> x.meet(0, 0), 1, 0);
    }

    @Says("which is AHEAD of all such (fewer WORDS first)")
    static void promise23FewerWordsFirst() {
        Edge.asks("meet", made("gh>ab;gh>h;hg>ab;hg>h", ""), x -> x.meet(Calls.code("gh"), Calls.code("hg")), 1, 8);
    }

    @Says("0; the ROW: .. (none for 0)")
    static void promise23NotMeet() {
        Edge.asks("meet", x -> x.meet(7, 8), 0);
        Edge.asks("meet", x -> x.meet(0, 8), 0);
        Edge.asks("meet, no RULES", StrikeWhatCancels::new, x -> x.meet(1, 2), 0);
    }

    @Says("-3 (3000, 3001)")
    static void promise23TooMany() {
        long many = Calls.code("fdeee");
        long least = Calls.code("aaaaa");
        Edge.asks("3000 and one", ComingEdgeTest::full, x -> x.meet(many, least), 1, least);
        Edge.asks("one and 3000", ComingEdgeTest::full, x -> x.meet(least, many), 1, least);
        Edge.asks("3000 and 3000", ComingEdgeTest::full, x -> x.meet(many, many), 1, least);
        Edge.stays("3001 and one", ComingEdgeTest::overfull, x -> x.meet(many, least), -3);
        Edge.stays("one and 3001", ComingEdgeTest::overfull, x -> x.meet(least, many), -3);
        Edge.stays("3001 and 3001", ComingEdgeTest::overfull, x -> x.meet(many, many), -3);
        Edge.stays("3001 and another one", ComingEdgeTest::overfull, x -> x.meet(8, many), -3);
    }

    @Says("NONE: no SAYING has one.")
    static void promise23NoSaying() {
        long many = Calls.code("fdeee");
        for (long code : new long[] {-1, 9, 90, 22876792454961L, Long.MIN_VALUE, Long.MAX_VALUE}) {
            Edge.stays("meet(" + code + ", 1)", x -> x.meet(code, 1), -1);
            Edge.stays("meet(1, " + code + ")", x -> x.meet(1, code), -1);
            Edge.stays("meet(" + code + ", " + code + ")", x -> x.meet(code, code), -1);
            Edge.stays("meet(" + code + ", 3001)", ComingEdgeTest::overfull, x -> x.meet(code, many), -1);
            Edge.stays("meet(3001, " + code + ")", ComingEdgeTest::overfull, x -> x.meet(many, code), -1);
        }
    }
}
