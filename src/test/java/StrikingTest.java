/** Promises 12 to 17. */
public final class StrikingTest {
    public static void main(String[] args) {
        strikeByClerks();
        strikeFirstRule();
        strikeByChance();
        run();
        runByRules();
        undo();
        undoManyStrikes();
        anew();
        can();
        judge();
        Calls.leave();
    }

    private static void strikeByClerks() {
        Calls.of("12");
        StrikeWhatCancels x = Calls.with("ab>;b>a", "bab");
        Calls.due("from the left", x.strike(0), 1);
        Calls.row(x, 0, Calls.code("aab"));
        Calls.due("minutes", x.minutes(), Calls.code("aab"));
        x.undo();
        Calls.due("from the right", x.strike(1), 1);
        Calls.row(x, 2, Calls.code("baa"));
        x.undo();
        Calls.due("by rules", x.strike(2), 0);
        Calls.row(x, 1, Calls.code("b"));
        Calls.due("another clerk", x.strike(4), -1);
        Calls.due("another clerk", x.strike(-1), -1);
        Calls.row(x, 1, Calls.code("b"));
        Calls.due("the last", x.strike(2), 1);
        for (int clerk = 0; clerk < 4; clerk++) {
            Calls.due("done", x.strike(clerk), -2);
        }
        Calls.due("another clerk, done", x.strike(4), -1);
        Calls.row(x, 0, Calls.code("a"));
        Calls.due("strikes", x.count(3), 2);
        Calls.due("the speech stays", x.anew(), Calls.code("bab"));
    }

    private static void strikeFirstRule() {
        Calls.of("12, the first rule");
        String[] words = {"cba", "cba", "cba"};
        int[] rule = {0, 0, 0};
        int[] place = {1, 1, 1};
        for (int clerk = 0; clerk < 3; clerk++) {
            StrikeWhatCancels x = Calls.with("ba>a;b>", words[clerk]);
            Calls.due("first rule", x.strike(clerk), rule[clerk]);
            Calls.row(x, place[clerk], Calls.code("ca"));
            x.undo();
            x.swap(0, 1);
            Calls.due("first rule", x.strike(clerk), 0);
            Calls.due("swapped", x.minutes(), Calls.code("ca"));
        }
        StrikeWhatCancels x = Calls.with("bbb>c;bb>", "abbbb");
        Calls.due("the greatest place", x.strike(1), 1);
        Calls.row(x, 3, Calls.code("abb"));
        Calls.due("behind", Calls.speech(x, "bbbb"), 4);
        Calls.due("the least place of the first rule", x.strike(2), 0);
        Calls.row(x, 0, Calls.code("cb"));
    }

    private static void strikeByChance() {
        Calls.of("12, by chance");
        StrikeWhatCancels x = Calls.with("ab>;b>a", "bab");
        // 1103527590 / 65536 is 16838, and 16838 % 3 is 2: the last by places.
        Calls.due("by chance", x.strike(3), 1);
        Calls.row(x, 2, Calls.code("baa"));
        Calls.due("R then", x.seed(-1), 1103527590);
        x.undo();
        // -1 times 1103515245 + 12345 is -1103502900; without sign 3191464396 / 65536 is 48697, % 3 is 1.
        Calls.due("by chance", x.strike(3), 0);
        Calls.row(x, 1, Calls.code("b"));
        Calls.due("R then", x.seed(1), -1103502900);
        Calls.due("one strike alone", x.strike(3), 1);
        Calls.due("R is drawn", x.seed(1), 1103527590);
        Calls.due("done", x.strike(3), -2);
        Calls.due("R stays", x.seed(1), 1);
        x = Calls.with("b>;b>a", "b");
        // 16838 % 2 is 0.
        Calls.due("by rules at one place", x.strike(3), 0);
    }

    private static void run() {
        Calls.of("13");
        StrikeWhatCancels x = Calls.with("ab>;b>a", "babb");
        Calls.due("none", x.run(0, 0), 0);
        Calls.row(x, Calls.code("babb"), 0, 0);
        int[][] no = {{4, 1}, {-1, 1}, {0, -1}, {0, 501}, {3, Integer.MIN_VALUE}};
        for (int[] k : no) {
            Calls.due("refused", x.run(k[0], k[1]), -1);
        }
        Calls.row(x, Calls.code("babb"), 0, 0);
        Calls.due("one", x.run(0, 1), 1);
        Calls.row(x, Calls.code("aabb"), 0, 1);
        Calls.due("till done", x.run(0, 500), 2);
        Calls.row(x, 0, 2, 0);
        Calls.due("done", x.run(1, 500), 0);
        Calls.row(x, 0, 0, 0);
        Calls.due("strikes", x.count(3), 3);
        x.anew();
        Calls.due("from the right", x.run(1, 500), 3);
        Calls.row(x, Calls.code("aaaa"), 0, 3);
    }

    private static void runByRules() {
        Calls.of("13, other clerks");
        StrikeWhatCancels x = Calls.with("ab>;b>a", "babb");
        Calls.due("by rules", x.run(2, 500), 3);
        Calls.row(x, 0, 2, 1);
        x.anew();
        Calls.due("by chance", x.run(3, 1), 1);
        // Four strikes: b at 0, ab at 1, b at 2, b at 3; 16838 % 4 is 2.
        Calls.row(x, Calls.code("baab"), 0, 1);
        x = Calls.with(Calls.STEPS, "hhhhhhhhhhhhhh");
        Calls.due("many", x.run(0, 500), 98);
        Calls.row(x, Calls.code("aaaaaaaaaaaaaa"), 14, 14, 14, 14, 14, 14, 14);
    }

    private static void undo() {
        Calls.of("14");
        StrikeWhatCancels x = Calls.with("ab>;b>a", "bab");
        Calls.due("none", x.undo(), -1);
        x.run(2, 2);
        Calls.due("strikes", x.count(3), 2);
        Calls.due("one is left", x.undo(), 1);
        Calls.due("minutes", x.minutes(), Calls.code("b"));
        Calls.due("none is left", x.undo(), 0);
        Calls.due("minutes", x.minutes(), Calls.code("bab"));
        Calls.due("none", x.undo(), -1);
        Calls.due("minutes", x.minutes(), Calls.code("bab"));
        x.strike(0);
        Calls.due("swap", x.swap(0, 1), true);
        Calls.due("one", x.undo(), 0);
        Calls.due("minutes", x.minutes(), Calls.code("bab"));
    }

    private static void undoManyStrikes() {
        Calls.of("14, 64 of them");
        StrikeWhatCancels x = Calls.with(Calls.STEPS, "hhhhhhhhhhhhhh");
        x.run(0, 64);
        Calls.due("strikes", x.count(3), 64);
        x.run(0, 34);
        Calls.due("strikes", x.count(3), 64);
        for (int left = 63; left >= 0; left--) {
            Calls.due("undo", x.undo(), left);
        }
        Calls.due("undo", x.undo(), -1);
        Calls.due("34 are made", x.minutes(), Calls.code("aaaabhhhhhhhhh"));
        Calls.due("again", x.run(0, 500), 64);
        Calls.due("strikes", x.count(3), 64);
        Calls.due("undo", x.undo(), 63);
        Calls.due("minutes", x.minutes(), Calls.code("aaaaaaaaaaaaab"));
    }

    private static void anew() {
        Calls.of("15");
        StrikeWhatCancels x = Calls.with("ab>;b>a", "bab");
        x.run(0, 2);
        Calls.due("anew", x.anew(), Calls.code("bab"));
        Calls.due("minutes", x.minutes(), Calls.code("bab"));
        Calls.due("strikes", x.count(3), 0);
        Calls.due("undo", x.undo(), -1);
        Calls.due("no speech", new StrikeWhatCancels().anew(), 0);
    }

    private static void can() {
        Calls.of("16");
        StrikeWhatCancels x = Calls.with("aa>;a>;c>", "aaab");
        Calls.due("can", x.can(), 5);
        Calls.row(x, 2, 3, 0);
        x.run(0, 500);
        Calls.due("done", x.can(), 0);
        Calls.row(x, 0, 0, 0);
        x = new StrikeWhatCancels();
        Calls.speech(x, "aaa");
        Calls.due("no rules", x.can(), 0);
        Calls.row(x);
    }

    private static void judge() {
        Calls.of("17");
        StrikeWhatCancels x = Calls.with("ab>;b>a", "babab");
        x.strike(0);
        Calls.due("none", x.judge(0, -1, -1), -2);
        Calls.row(x, Calls.code("babab"));
        // ab at 3, b at 0, ab at 1: all can be made.
        Calls.due("all", x.judge(3, 0x100130, 0), -2);
        Calls.row(x, Calls.code("a"));
        Calls.due("a place where it does not stand", x.judge(2, 0x0030, 0), 1);
        Calls.row(x, Calls.code("bab"));
        Calls.due("no such rule", x.judge(3, 0x100230, 0), 1);
        Calls.row(x, Calls.code("bab"));
        Calls.due("no such place", x.judge(1, 0xF0, 0), 0);
        Calls.row(x, Calls.code("babab"));
        Calls.due("behind the end", x.judge(1, 0x40, 0), 0);
        Calls.due("nothing changes", x.minutes(), Calls.code("aabab"));
        Calls.due("strikes", x.count(3), 1);
        Calls.due("refused", x.judge(8, 0, 0), -1);
        Calls.due("refused", x.judge(-1, 0, 0), -1);
        Calls.row(x, Calls.code("babab"));
        x = Calls.with("b>a", "bbbbbbb");
        Calls.due("seven, the highest byte with its sign", x.judge(7, 0x30201000, 0x605040), -2);
        Calls.row(x, Calls.code("aaaaaaa"));
        Calls.due("the sixth can't", x.judge(7, 0x30201000, 0x600040), 5);
        Calls.row(x, Calls.code("aaaaabb"));
        x = Calls.with("b>a", "aaaaaaaaab");
        Calls.due("place 9", x.judge(5, 0x90909090, 0), 1);
        Calls.due("place 9 as the last byte of a", x.judge(1, 0x90, 0), -2);
        Calls.row(x, Calls.code("aaaaaaaaaa"));
    }
}
