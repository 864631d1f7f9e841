/** Promises 24 to 28. */
public final class OverlapTest {
    public static void main(String[] args) {
        overlaps();
        overlap();
        overlapsOfMany();
        idle();
        lessens();
        weights();
        weightsOfMany();
        Calls.leave();
    }

    private static void overlaps() {
        Calls.of("24");
        StrikeWhatCancels x = Calls.with("aaa>b", "");
        Calls.due("a rule with itself", x.overlaps(), 2);
        Calls.row(x, 2, 0);
        x = Calls.with("aa>;aa>;c>b");
        // Each with each by one word, and one within the other at 0.
        Calls.due("like rules", x.overlaps(), 6);
        Calls.row(x, 0, -1);
        x = Calls.with("aa>;bab>a");
        // aa with itself meets; bab with itself: aab and baa both come to b.
        Calls.due("overlaps", x.overlaps(), 2);
        Calls.row(x, 0, -1);
        x = Calls.with("aa>;bab>c");
        Calls.due("overlaps", x.overlaps(), 2);
        Calls.row(x, 1, 1);
        Calls.due("no rules", new StrikeWhatCancels().overlaps(), 0);
        x = Calls.with("a>;b>");
        Calls.due("none", x.overlaps(), 0);
        Calls.row(x, 0, -1);
    }

    private static void overlap() {
        Calls.of("25");
        StrikeWhatCancels x = Calls.with("abab>c;ba>a", "");
        long[][] due = {
            {0, 0, 2, Calls.code("ababab"), Calls.code("cab"), Calls.code("abc"), 0},
            {0, 1, 1, Calls.code("ababa"), Calls.code("ca"), Calls.code("abaa"), 0},
            {0, 1, 11, Calls.code("abab"), Calls.code("c"), Calls.code("aab"), 0},
            {1, 0, 1, Calls.code("babab"), Calls.code("abab"), Calls.code("bc"), 0}};
        Calls.due("how many", x.overlaps(), due.length);
        for (int k = 0; k < due.length; k++) {
            Calls.due("overlap " + k, x.overlap(k), due[k][6]);
            Calls.row(x, due[k][0], due[k][1], due[k][2], due[k][3], due[k][4], due[k][5]);
        }
        Calls.due("not so many", x.overlap(due.length), -2);
        Calls.due("not so many", x.overlap(Integer.MAX_VALUE), -2);
        Calls.due("below 0", x.overlap(-1), -1);
        Calls.row(x, 1, 0, 1, Calls.code("babab"), Calls.code("abab"), Calls.code("bc"));
        x = Calls.with("ab>;ba>");
        Calls.due("meets", x.overlap(1), 1);
        Calls.row(x, 1, 0, 1, Calls.code("bab"), 2, 2);
        x = Calls.with("aba>;b>a");
        Calls.due("within", x.overlap(1), 0);
        Calls.row(x, 0, 1, 11, Calls.code("aba"), 0, Calls.code("aaa"));
        Calls.due("longest", Calls.with("aaaaa>aaaa").overlap(0), 1);
    }

    private static void overlapsOfMany() {
        Calls.of("24, 25, 26, many");
        StrikeWhatCancels x = Calls.with(Calls.STEPS + ";hhhhh>", "");
        x.can();
        Calls.due("one search of too many", x.overlaps(), -3);
        Calls.due("overlap", x.overlap(0), -3);
        Calls.due("not so many", x.overlap(9), -2);
        Calls.due("below 0", x.overlap(-1), -1);
        Calls.due("idle", x.idle(), -3);
        Calls.row(x, 0, 0, 0, 0, 0, 0, 0, 0);
    }

    private static void idle() {
        Calls.of("26");
        Calls.due("none", Calls.with("a>;b>").idle(), 0);
        Calls.due("like rules, both", Calls.with("a>;b>;a>").idle(), 5);
        Calls.due("by two others", Calls.with("ab>;a>;b>").idle(), 1);
        Calls.due("they meet, both struck on", Calls.with("c>a;c>b;a>;b>").idle(), 3);
        Calls.due("no rules", new StrikeWhatCancels().idle(), 0);
        Calls.due("the last of twelve", Calls.with("a>;b>;c>;d>;e>;f>;g>;ha>;hb>;hc>;hd>;aba>").idle(), 1 << 11);
    }

    private static void lessens() {
        Calls.of("27");
        StrikeWhatCancels x = new StrikeWhatCancels();
        Calls.due("no rules", x.lessens(), 1);
        Calls.row(x, -1, 0);
        x = Calls.with("aab>c;ab>;ba>ab");
        Calls.due("one by none", x.lessens(), 0);
        Calls.row(x, 2, 0);
        x = Calls.with("aab>c;abb>c;c>;c=2");
        Calls.due("the first of the least", x.lessens(), 1);
        Calls.row(x, 0, 1);
        x.weigh(2, 9);
        Calls.due("below 0", x.lessens(), 0);
        Calls.row(x, 0, -6);
        x.weigh(0, 9);
        Calls.due("the second", x.lessens(), 1);
        Calls.row(x, 1, 2);
    }

    private static void weights() {
        Calls.of("28");
        StrikeWhatCancels x = new StrikeWhatCancels();
        Calls.due("no rules", x.weights(), 1);
        Calls.row(x, 1, 1, 1, 1, 1, 1, 1, 1);
        x = Calls.with("ba>ab");
        x.can();
        Calls.due("none can be", x.weights(), 0);
        Calls.row(x);
        x = Calls.with("c>b;b>a");
        Calls.due("steps", x.weights(), 1);
        Calls.row(x, 1, 2, 3, 1, 1, 1, 1, 1);
        x = Calls.with("ba>aa;c=9;bb>ah");
        Calls.due("b above a, twice b above a and h", x.weights(), 1);
        Calls.row(x, 1, 2, 1, 1, 1, 1, 1, 1);
        Calls.due("weights stay", x.weigh(1, 1), 1);
        x = Calls.with("cc>bb;cc>bh;cc>ba;h>d");
        // h above d, twice c above h and b, c above b.
        Calls.due("three", x.weights(), 1);
        Calls.row(x, 1, 1, 2, 1, 1, 1, 1, 2);
    }

    private static void weightsOfMany() {
        Calls.of("28, many");
        StrikeWhatCancels x = Calls.with(Calls.STEPS);
        Calls.due("eight steps", x.weights(), 1);
        Calls.row(x, 1, 2, 3, 4, 5, 6, 7, 8);
        Calls.book(x, "aa>h");
        // Twice a is above h, which is at least seven above a: a would be at least 8.
        Calls.due("none", x.weights(), 0);
        Calls.row(x);
        x = Calls.with("h>g;g>f;f>e;e>d;d>c;c>b;aaa>h");
        // h is at least 7, so a is at least 3.
        Calls.due("a first", x.weights(), 1);
        Calls.row(x, 3, 1, 2, 3, 4, 5, 6, 7);
        x = Calls.with("ba>ac;c>b");
        Calls.due("round and round", x.weights(), 0);
    }
}
