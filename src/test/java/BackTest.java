/** Promises 32 to 37. */
public final class BackTest {
    private static final String THREE = "ab>;b>a";

    public static void main(String[] args) {
        come();
        comeWide();
        shortest();
        longest();
        still();
        sorts();
        quarrels();
        refused();
        changed();
        Calls.leave();
    }

    private static void come() {
        Calls.of("32");
        StrikeWhatCancels x = Calls.with(THREE);
        x.wide(2);
        // aa, ab, ba, bb come to aa, none, aa, and bb to ab to none from the left.
        Calls.due("from the left", x.come(0, 2, 0), 2);
        Calls.row(x, Calls.code("ab"));
        Calls.due("from the left", x.come(0, 2, Calls.code("aa")), 2);
        Calls.row(x, Calls.code("aa"));
        // From the right ab comes to aa, bb to ba to aa.
        Calls.due("from the right", x.come(1, 2, 0), 0);
        Calls.row(x);
        Calls.due("from the right", x.come(1, 2, Calls.code("aa")), 4);
        // By rules bb comes to ab, to none.
        Calls.due("by rules", x.come(2, 2, 0), 2);
        Calls.row(x, Calls.code("ab"));
        Calls.due("itself is not done", x.come(0, 2, Calls.code("ab")), 0);
        Calls.due("more words", x.come(0, 2, Calls.code("aaa")), 0);
        Calls.due("no words", x.come(0, 0, 0), 1);
        Calls.row(x, 0);
        Calls.due("no words", x.come(0, 0, 1), 0);
        Calls.row(x);
    }

    private static void comeWide() {
        Calls.of("32, within WIDE");
        // All but a, b become words beyond two, and come back as a.
        StrikeWhatCancels x = Calls.with("bb>ah;h>g;g>c;c>a");
        x.wide(2);
        Calls.due("through others", x.come(0, 2, Calls.code("aa")), 2);
        Calls.row(x, Calls.code("aa"));
        Calls.due("strikes through others", x.longest(0, 2), 4);
        Calls.row(x, Calls.code("bb"), 3);
        x.wide(3);
        Calls.due("c, too", x.come(0, 2, Calls.code("aa")), 5);
        x.wide(8);
        Calls.due("four words are 4096", x.come(0, 4, 0), 0);
        Calls.due("five are more", x.come(0, 5, 0), -3);
        x.wide(1);
        Calls.due("one word", x.come(0, 14, Calls.code("aaaaaaaaaaaaaa")), 1);
        Calls.row(x, Calls.code("aaaaaaaaaaaaaa"));
        x.wide(2);
        Calls.due("twelve are 4096", x.come(0, 12, Calls.code("aaaaaaaaaaaa")) > 1, true);
        Calls.due("thirteen are more", x.come(0, 13, 0), -3);
    }

    private static void shortest() {
        Calls.of("33");
        StrikeWhatCancels x = Calls.with(THREE);
        x.wide(2);
        Calls.due("none", x.shortest(0, 0), 2);
        Calls.row(x, Calls.code("ab"));
        Calls.due("more than it has", x.shortest(0, 1), 3);
        Calls.row(x, Calls.code("aab"));
        Calls.due("from the right never", x.shortest(1, 0), -2);
        Calls.due("not done", x.shortest(0, 2), -2);
        Calls.due("no saying", x.shortest(0, 9), -1);
        Calls.due("another clerk", x.shortest(3, 0), -1);
        Calls.due("another clerk", x.shortest(-1, 0), -1);
        Calls.due("the longest", x.shortest(0, Calls.code("aaaaaaaaaaaaaa")), -2);
        Calls.row(x, Calls.code("aab"));
        x = Calls.with("aaaaa>", "");
        x.wide(1);
        Calls.due("fourteen", x.shortest(2, Calls.code("aaaa")), 9);
        Calls.row(x, Calls.code("aaaaaaaaa"));
        Calls.book(x, "aa>b");
        Calls.due("fourteen, the longest", x.shortest(0, Calls.code("bbbbbbb")), -2);
        x = Calls.with("aa>b");
        x.wide(1);
        Calls.due("fourteen, the longest", x.shortest(0, Calls.code("bbbbbbb")), 14);
        Calls.row(x, Calls.code("aaaaaaaaaaaaaa"));
        x = Calls.with("aaaaa>;hhhh>aaa");
        x.wide(8);
        Calls.due("four of 4096", x.shortest(0, Calls.code("aaa")), 4);
        Calls.row(x, Calls.code("hhhh"));
        Calls.due("five are too many", x.shortest(0, 0), -2);
        x.wide(5);
        Calls.due("five of 3125", x.shortest(0, 0), 5);
        Calls.row(x, Calls.code("aaaaa"));
    }

    private static void longest() {
        Calls.of("34");
        StrikeWhatCancels x = Calls.with(THREE);
        x.wide(2);
        // From the left: aab 1, aba 1, abb 2, baa 1, bab 2, bba 2, bbb 3.
        Calls.due("from the left", x.longest(0, 3), 3);
        Calls.row(x, Calls.code("bbb"), 1);
        Calls.due("of two words", x.longest(0, 2), 2);
        Calls.row(x, Calls.code("bb"), 1);
        Calls.due("from the right", x.longest(1, 3), 3);
        Calls.row(x, Calls.code("bbb"), 1);
        Calls.due("no words", x.longest(2, 0), 0);
        Calls.row(x, 0, 1);
        x = Calls.with("c>");
        x.wide(2);
        Calls.due("none", x.longest(0, 3), 0);
        Calls.row(x, Calls.code("aaa"), 8);
    }

    private static void still() {
        Calls.of("35");
        StrikeWhatCancels x = Calls.with("aa>b");
        x.wide(2);
        long[] due = {1, 2, 3, 5, 8, 13};
        for (int n = 0; n < due.length; n++) {
            Calls.due("still(" + n + ")", x.still(n), due[n]);
        }
        Calls.due("still(20)", x.still(20), 17711);
        Calls.due("still(21)", x.still(21), -1);
        Calls.due("still(-1)", x.still(-1), -1);
        x.wide(8);
        Calls.due("of eight words", x.still(2), 63);
        Calls.book(x, "abab>;bab>");
        Calls.due("one left within the other", x.still(3), 512 - 15 - 1);
        x = Calls.with("a>;b>;c>;d>;e>;f>;g>;h>");
        Calls.due("no word can stay", x.still(1), 0);
        Calls.due("no words", x.still(0), 1);
        x = new StrikeWhatCancels();
        Calls.due("no rules", x.still(20), 3486784401L);
        x.wide(8);
        Calls.due("no rules, eight words", x.still(20), 1L << 60);
    }

    private static void sorts() {
        Calls.of("36");
        StrikeWhatCancels x = Calls.with(THREE);
        x.wide(2);
        Calls.due("from the left, a tie", x.sorts(0, 2), 2);
        Calls.row(x, 0, 2);
        Calls.due("from the right", x.sorts(1, 2), 1);
        Calls.row(x, Calls.code("aa"), 4);
        Calls.due("no words", x.sorts(0, 0), 1);
        Calls.row(x, 0, 1);
        x = new StrikeWhatCancels();
        x.wide(8);
        Calls.due("all of them", x.sorts(2, 4), 4096);
        Calls.row(x, Calls.code("aaaa"), 1);
    }

    private static void quarrels() {
        Calls.of("37");
        StrikeWhatCancels x = Calls.with(THREE);
        x.wide(2);
        Calls.due("two", x.quarrels(2), 2);
        Calls.row(x, Calls.code("ab"));
        Calls.due("no words", x.quarrels(0), 0);
        Calls.row(x);
        Calls.due("one word", x.quarrels(1), 0);
        Calls.row(x);
    }

    private static void refused() {
        Calls.of("32, 34, 36, 37, refused");
        StrikeWhatCancels x = Calls.with(THREE);
        x.can();
        int[][] no = {{3, 2}, {-1, 2}, {0, 15}, {0, -1}, {3, 14}, {Integer.MAX_VALUE, Integer.MIN_VALUE}};
        for (int[] k : no) {
            Calls.due("come", x.come(k[0], k[1], 0), -1);
            Calls.due("longest", x.longest(k[0], k[1]), -1);
            Calls.due("sorts", x.sorts(k[0], k[1]), -1);
        }
        Calls.due("come to no saying", x.come(0, 14, 9), -1);
        Calls.due("quarrels", x.quarrels(15), -1);
        Calls.due("quarrels", x.quarrels(-1), -1);
        Calls.due("come", x.come(0, 8, 0), -3);
        Calls.due("longest", x.longest(1, 8), -3);
        Calls.due("sorts", x.sorts(2, 8), -3);
        Calls.due("quarrels", x.quarrels(14), -3);
        Calls.row(x, 0, 0);
        Calls.due("2187 of seven", x.longest(1, 7) > 0, true);
    }

    private static void changed() {
        Calls.of("32 to 37, rules and WIDE that change");
        StrikeWhatCancels x = Calls.with("ab>;b>a");
        x.wide(2);
        Calls.due("come", x.come(0, 2, 0), 2);
        x.swap(0, 1);
        Calls.due("come", x.come(2, 2, 0), 0);
        x.swap(0, 1);
        Calls.due("come", x.come(2, 2, 0), 2);
        x.wide(3);
        Calls.due("sorts", x.sorts(0, 2), 5);
        Calls.book(x, "c>a");
        Calls.due("sorts", x.sorts(0, 2), 2);
        x.wide(1);
        Calls.due("sorts", x.sorts(0, 2), 1);
    }
}
