/** Promises 29 to 31. */
public final class AsideTest {
    public static void main(String[] args) {
        complete();
        completeTooLong();
        same();
        sameNotDone();
        between();
        betweenMost();
        betweenMany();
        Calls.leave();
    }

    private static void complete() {
        Calls.of("29");
        StrikeWhatCancels x = Calls.with("aa>b");
        x.net();
        Calls.due("not with none", x.complete(0), -2);
        Calls.row(x);
        Calls.due("with one", x.complete(1), 1);
        Calls.row(x, Calls.code("ba"), Calls.code("ab"));
        Calls.due("with more", x.complete(12), 1);
        Calls.row(x, Calls.code("ba"), Calls.code("ab"));
        Calls.due("refused", x.complete(13), -1);
        Calls.due("refused", x.complete(-1), -1);
        Calls.row(x, Calls.code("ba"), Calls.code("ab"));
        Calls.due("not added to the rules", x.count(0), 1);
        Calls.due("not with none, still", x.complete(0), -2);
        Calls.row(x);
        Calls.book(x, "ba>ab");
        Calls.due("nothing to add", x.complete(0), 0);
        x = Calls.with("ab>;ba>a");
        // aba comes to a and aa; bab to b and ab, which is none; then ab, with the b struck alone, to a and none.
        Calls.due("three", x.complete(12), 3);
        Calls.row(x, Calls.code("aa"), Calls.code("a"), Calls.code("b"), 0, Calls.code("a"), 0);
        Calls.due("three are enough", x.complete(3), 3);
        Calls.due("two are not", x.complete(2), -2);
        Calls.row(x, Calls.code("aa"), Calls.code("a"), Calls.code("b"), 0);
        Calls.due("one is not enough", x.complete(1), -2);
        Calls.row(x, Calls.code("aa"), Calls.code("a"));
        Calls.due("no rules", new StrikeWhatCancels().complete(12), 0);
        // ddddd: aaadd, from the left badd, and ddaaa, from the left ddba.
        x = Calls.with("ddd>aaa;aa>b");
        Calls.due("from the left", x.complete(1), -2);
        Calls.row(x, Calls.code("ddba"), Calls.code("badd"));
        Calls.due("nothing unlike", Calls.with("aa>b;ba>ab;bb>").complete(0), 0);
    }

    private static void completeTooLong() {
        Calls.of("29, a long left");
        // aabaaabaa comes to bbabaa and aababb.
        StrikeWhatCancels x = Calls.with("aabaa>bb");
        Calls.due("six words", x.complete(12), -2);
        Calls.row(x);
        Calls.due("six words, none asked", x.complete(0), -2);
        Calls.row(x);
        // ba and ab first; then cabbcabbc comes to ddabbc and cabbdd.
        x = Calls.with("aa>b;cabbc>dd");
        Calls.due("one, then six words", x.complete(12), -2);
        Calls.row(x, Calls.code("ba"), Calls.code("ab"));
        Calls.due("one, as it was asked", x.complete(1), -2);
        Calls.row(x, Calls.code("ba"), Calls.code("ab"));
        Calls.due("five words are added", Calls.with("aabaa>b").complete(12), 2);
    }

    private static void same() {
        Calls.of("30");
        StrikeWhatCancels x = Calls.with("aa>b");
        Calls.due("by the one that is added", x.same(Calls.code("ba"), Calls.code("ab")), 1);
        Calls.row(x, Calls.code("ab"), Calls.code("ab"));
        Calls.due("not", x.same(Calls.code("ba"), Calls.code("bb")), 0);
        Calls.row(x, Calls.code("ab"), Calls.code("bb"));
        Calls.due("none and none", x.same(0, 0), 1);
        Calls.row(x, 0, 0);
        Calls.due("no saying", x.same(9, 0), -1);
        Calls.due("no saying", x.same(0, -1), -1);
        Calls.row(x, 0, 0);
        Calls.due("the longest", x.same(Calls.code("aaaaaaaaaaaaaa"), Calls.code("bbbbbbb")), 1);
        Calls.row(x, Calls.code("bbbbbbb"), Calls.code("bbbbbbb"));
        Calls.book(x, "bb>");
        Calls.due("rules behind count", x.same(Calls.code("aaaa"), 0), 1);
    }

    private static void sameNotDone() {
        Calls.of("30, not done");
        StrikeWhatCancels x = Calls.with("aabaa>bb");
        Calls.due("not, but who knows", x.same(1, 2), -2);
        Calls.row(x, 1, 2);
        Calls.due("for sure", x.same(Calls.code("aabaa"), Calls.code("bb")), 1);
        Calls.row(x, Calls.code("bb"), Calls.code("bb"));
        Calls.due("no saying", x.same(9, 1), -1);
        // From the right both would end in bb.
        Calls.due("from the left", x.same(Calls.code("aabaabaa"), Calls.code("aabaabaa")), 1);
        Calls.row(x, Calls.code("bbbaa"), Calls.code("bbbaa"));
    }

    private static void between() {
        Calls.of("31");
        StrikeWhatCancels x = Calls.with("ab>c;d>c");
        Calls.due("itself", x.between(1, 1, 1), 0);
        Calls.row(x);
        Calls.due("turned round", x.between(Calls.code("d"), Calls.code("ab"), 2), 2);
        Calls.row(x, Calls.code("c"), Calls.code("ab"));
        Calls.due("not within one word, for the goal has two", x.between(Calls.code("d"), Calls.code("ab"), 1), -1);
        Calls.due("none", x.between(Calls.code("d"), Calls.code("a"), 3), -2);
        Calls.due("the least of two", x.between(Calls.code("cd"), Calls.code("dc"), 2), 2);
        Calls.row(x, Calls.code("cc"), Calls.code("dc"));
        Calls.due("at once", x.between(Calls.code("dd"), Calls.code("dab"), 3), 2);
        Calls.row(x, Calls.code("dc"), Calls.code("dab"));
        long[][] no = {{1, 1, -1}, {1, 1, 9}, {9, 1, 8}, {1, -1, 8}, {10, 1, 1}, {1, 10, 1}, {1, 1, 0}};
        for (long[] k : no) {
            Calls.due("refused", x.between(k[0], k[1], (int) k[2]), -1);
        }
        Calls.row(x, Calls.code("dc"), Calls.code("dab"));
        Calls.due("none and none", x.between(0, 0, 0), 0);
        Calls.row(x);
    }

    private static void betweenMost() {
        Calls.of("31, at most");
        StrikeWhatCancels x = Calls.with("aa>;bb>");
        Calls.due("down and up", x.between(Calls.code("aa"), Calls.code("bb"), 2), 2);
        Calls.row(x, 0, Calls.code("bb"));
        x = Calls.with("ac>a;bc>b;cc>a;cc>b");
        // From a to b: a, cc, b.
        Calls.due("two words", x.between(1, 2, 2), 2);
        Calls.row(x, Calls.code("cc"), Calls.code("b"));
        Calls.due("one word", x.between(1, 2, 1), -2);
        x = Calls.with("a>;b>");
        Calls.due("eight", x.between(Calls.code("aaaa"), Calls.code("bbbb"), 8), 8);
        Calls.row(x, Calls.code("aaa"), Calls.code("aa"), Calls.code("a"), 0,
            Calls.code("b"), Calls.code("bb"), Calls.code("bbb"), Calls.code("bbbb"));
        Calls.due("ten", x.between(Calls.code("aaaaa"), Calls.code("bbbbb"), 8), 10);
        Calls.row(x, Calls.code("aaaa"), Calls.code("aaa"), Calls.code("aa"), Calls.code("a"), 0,
            Calls.code("b"), Calls.code("bb"), Calls.code("bbb"));
    }

    private static void betweenMany() {
        Calls.of("31, many");
        // From none all SAYINGS of d words are d away: 3280 of at most seven, 1093 of at most six.
        StrikeWhatCancels x = Calls.with("a>;b>;c>");
        Calls.due("seven, so near as 3280 are", x.between(0, Calls.code("ccccccc"), 8), 7);
        Calls.row(x, Calls.code("c"), Calls.code("cc"), Calls.code("ccc"), Calls.code("cccc"),
            Calls.code("ccccc"), Calls.code("cccccc"), Calls.code("ccccccc"));
        Calls.due("eight, behind 3280", x.between(0, Calls.code("cccccccc"), 8), -3);
        Calls.due("eight, next to one of the first", x.between(0, Calls.code("aaaaaaaa"), 8), -3);
        Calls.due("not there, behind 3280", x.between(0, Calls.code("d"), 7), -3);
        Calls.due("not there, behind 1093", x.between(0, Calls.code("d"), 6), -2);
        Calls.row(x, Calls.code("c"), Calls.code("cc"), Calls.code("ccc"), Calls.code("cccc"),
            Calls.code("ccccc"), Calls.code("cccccc"), Calls.code("ccccccc"));
        Calls.due("refused goes ahead", x.between(0, 9, 8), -1);
    }
}
