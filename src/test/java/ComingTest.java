/** Promises 18 to 23. */
public final class ComingTest {
    public static void main(String[] args) {
        net();
        netOfMany();
        done();
        way();
        wayOfMany();
        ways();
        clerks();
        meet();
        Calls.leave();
    }

    private static void net() {
        Calls.of("18");
        StrikeWhatCancels x = Calls.with("aa>;b>a;c>b", "cb");
        // cb, bb, ca, ab, ba, aa and none.
        Calls.due("net", x.net(), 7);
        Calls.row(x, 1, 4, 4);
        Calls.speech(x, "aaa");
        Calls.due("two strikes, one saying", x.net(), 2);
        Calls.row(x, 1, 1, 1);
        x = Calls.with("ab>c;b>a", "ab");
        Calls.due("net", x.net(), 3);
        Calls.row(x, 2, 1, 1);
        x = Calls.with("ab>;b>a;aa>b", "ab");
        // ab -> none; ab -> aa -> b -> a.
        Calls.due("net", x.net(), 5);
        Calls.row(x, 2, 3, 1);
        x.run(0, 1);
        Calls.due("of the minutes", x.net(), 1);
        Calls.row(x, 1, 0, 0);
    }

    private static void netOfMany() {
        Calls.of("18, many");
        StrikeWhatCancels x = Calls.with(Calls.STEPS, "hceee");
        Calls.due("3000", x.net(), 3000);
        Calls.row(x, 1, 7 + 2 + 4 * 3, 21);
        Calls.due("done", x.done(0), Calls.code("aaaaa"));
        Calls.due("done", x.done(1), -2);
        // 8 times 7 times 6 times 3 times 3.
        Calls.speech(x, "hgfcc");
        Calls.due("3024", x.net(), -3);
        Calls.row(x, 1, 21, 21);
        Calls.due("done", x.done(0), -3);
        Calls.due("done", x.done(-1), -1);
        Calls.due("way", x.way(Calls.code("hgfcc")), -3);
        Calls.due("way", x.way(9), -1);
        Calls.due("ways", x.ways(Calls.code("hgfcc")), -3);
        Calls.due("ways", x.ways(-1), -1);
        Calls.row(x, 1, 21, 21);
        // 3000, and one more that comes by striking all of them.
        Calls.book(x, "hceee>");
        Calls.speech(x, "hceee");
        Calls.due("3001", x.net(), -3);
    }

    private static void done() {
        Calls.of("19");
        StrikeWhatCancels x = Calls.with("aa>b;ab>", "aaaa");
        // aaaa, aab, aba, baa; of these a and bb.
        Calls.due("net", x.net(), 6);
        Calls.row(x, 2, 2, 2);
        Calls.due("the first", x.done(0), Calls.code("a"));
        Calls.due("the second", x.done(1), Calls.code("bb"));
        Calls.due("the third", x.done(2), -2);
        Calls.row(x, 2, 2, 2);
        Calls.due("below 0", x.done(-1), -1);
        Calls.due("below 0", x.done(Integer.MIN_VALUE), -1);
        Calls.due("no words are done, too", Calls.with("ab>", "ab").done(0), 0);
        Calls.due("not so many", x.done(Integer.MAX_VALUE), -2);
    }

    private static void way() {
        Calls.of("20");
        StrikeWhatCancels x = Calls.with("ab>;b>a;aa>b", "abb");
        Calls.due("itself", x.way(Calls.code("abb")), 0);
        Calls.row(x);
        Calls.due("one", x.way(Calls.code("b")), 1);
        Calls.row(x, 0, 0);
        // a: ab struck, b to a; or, later in the row, b to a first.
        Calls.due("two", x.way(Calls.code("a")), 2);
        Calls.row(x, 0, 0, 1, 0);
        Calls.due("three", x.way(Calls.code("ba")), 3);
        Calls.row(x, 1, 1, 1, 2, 2, 0);
        Calls.due("not", x.way(Calls.code("c")), -2);
        Calls.due("not", x.way(Calls.code("bbb")), -2);
        Calls.due("no saying", x.way(9), -1);
        Calls.due("no saying", x.way(-1), -1);
        Calls.row(x, 1, 1, 1, 2, 2, 0);
        // Both words to a, two a to b at 1, and ab struck.
        Calls.due("four", x.way(0), 4);
        Calls.row(x, 1, 1, 1, 2, 2, 1, 0, 0);
    }

    private static void wayOfMany() {
        Calls.of("20, many");
        StrikeWhatCancels x = Calls.with(Calls.STEPS, "hh");
        Calls.due("fourteen", x.way(Calls.code("aa")), 14);
        Calls.row(x, 0, 0, 0, 1, 1, 0, 1, 1, 2, 0, 2, 1, 3, 0, 3, 1);
        Calls.due("eight", x.way(Calls.code("dd")), 8);
        Calls.row(x, 0, 0, 0, 1, 1, 0, 1, 1, 2, 0, 2, 1, 3, 0, 3, 1);
        Calls.due("seven", x.way(Calls.code("de")), 7);
        Calls.row(x, 0, 0, 0, 1, 1, 0, 1, 1, 2, 0, 2, 1, 3, 0);
    }

    private static void ways() {
        Calls.of("21");
        StrikeWhatCancels x = Calls.with(Calls.STEPS, "hh");
        Calls.due("to the end", x.ways(Calls.code("aa")), 3432);
        Calls.row(x, 3432);
        Calls.due("half the way", x.ways(Calls.code("gf")), 3);
        Calls.row(x, 3432);
        Calls.due("itself", x.ways(Calls.code("hh")), 1);
        Calls.due("none", x.ways(Calls.code("hha")), -2);
        Calls.due("no saying", x.ways(9), -1);
        Calls.row(x, 3432);
        x = Calls.with("ab>;ba>;ab>", "aba");
        Calls.due("strikes by other rules are others", x.ways(1), 3);
        Calls.row(x, 3);
        x = Calls.with("aa>b;b>", "aaa");
        // aaa -> ba -> a, aaa -> ab -> a.
        Calls.due("by two", x.ways(1), 2);
        Calls.row(x, 2);
        x = Calls.with("ab>;b>a", "ab");
        Calls.due("one of two ends", x.ways(0), 1);
        Calls.row(x, 2);
    }

    private static void clerks() {
        Calls.of("22");
        StrikeWhatCancels x = Calls.with("bc>g;abc>e;cd>f", "abcd");
        Calls.due("three unlike", x.clerks(), 3);
        Calls.row(x, Calls.code("ed"), Calls.code("abf"), Calls.code("agd"), 1, 1, 1);
        Calls.due("minutes stay", x.minutes(), Calls.code("abcd"));
        Calls.due("strikes stay", x.count(3), 0);
        x = Calls.with("ab>;b>a", "babb");
        Calls.due("two", x.clerks(), 2);
        Calls.row(x, 0, Calls.code("aaaa"), 0, 3, 3, 3);
        x = Calls.with("aa>b", "aaa");
        Calls.due("two", x.clerks(), 2);
        Calls.row(x, Calls.code("ba"), Calls.code("ab"), Calls.code("ba"), 1, 1, 1);
        x = Calls.with(Calls.STEPS, "hhhhhhhhhhhhhh");
        Calls.due("one", x.clerks(), 1);
        long all = Calls.code("aaaaaaaaaaaaaa");
        Calls.row(x, all, all, all, 98, 98, 98);
    }

    private static void meet() {
        Calls.of("23");
        StrikeWhatCancels x = Calls.with("aa>b;ab>a;d>c", "");
        Calls.due("meet", x.meet(Calls.code("aab"), Calls.code("aa")), 1);
        Calls.row(x, Calls.code("b"));
        Calls.due("one leads to the other", x.meet(Calls.code("dd"), Calls.code("dc")), 1);
        Calls.row(x, Calls.code("cc"));
        Calls.due("not", x.meet(Calls.code("b"), Calls.code("a")), 0);
        Calls.row(x);
        Calls.due("one and the same", x.meet(Calls.code("c"), Calls.code("c")), 1);
        Calls.row(x, Calls.code("c"));
        Calls.due("no saying", x.meet(9, 1), -1);
        Calls.due("no saying", x.meet(1, -5), -1);
        Calls.row(x, Calls.code("c"));
        x = Calls.with("ab>;a>;b>", "");
        Calls.due("none at all, which comes first", x.meet(Calls.code("ab"), Calls.code("ab")), 1);
        Calls.row(x, 0);
        x = Calls.with(Calls.STEPS, "hh");
        Calls.due("too many", x.meet(Calls.code("hhhh"), 1), -3);
        Calls.due("too many", x.meet(1, Calls.code("hhhh")), -3);
        Calls.due("too many of one alone", x.meet(Calls.code("hhhh"), Calls.code("hhhh")), -3);
        Calls.due("no saying", x.meet(9, Calls.code("hhhh")), -1);
        Calls.due("many", x.meet(Calls.code("hceee"), Calls.code("aaaaa")), 1);
        Calls.row(x, Calls.code("aaaaa"));
        Calls.due("the net is of the minutes", x.net(), 64);
    }
}
