/** Promises 38 to 43. */
public final class KeptTest {
    public static void main(String[] args) {
        seed();
        keep();
        again();
        count();
        minutes();
        row();
        Calls.leave();
    }

    private static void seed() {
        Calls.of("38");
        StrikeWhatCancels x = new StrikeWhatCancels();
        Calls.due("was", x.seed(0), 1);
        Calls.due("was", x.seed(Integer.MIN_VALUE), 0);
        Calls.due("was", x.seed(-1), Integer.MIN_VALUE);
        Calls.due("was", x.seed(7), -1);
    }

    private static void keep() {
        Calls.of("39");
        StrikeWhatCancels x = Calls.with("b>a", "bbb");
        int[] no = {-1, 3, Integer.MAX_VALUE, Integer.MIN_VALUE};
        for (int i : no) {
            Calls.due("refused", x.keep(i), false);
            Calls.due("refused", x.again(i), false);
        }
        for (int i = 0; i < 3; i++) {
            Calls.due("nothing kept", x.again(i), false);
            x.strike(0);
            Calls.due("keep", x.keep(i), true);
        }
        Calls.due("strikes stay", x.count(3), 3);
        Calls.due("again", x.again(0), true);
        Calls.due("one strike", x.minutes(), Calls.code("abb"));
        Calls.due("again", x.again(2), true);
        Calls.due("three strikes", x.minutes(), Calls.code("aaa"));
        Calls.due("again", x.again(1), true);
        Calls.due("two strikes", x.minutes(), Calls.code("aab"));
        Calls.due("kept anew", x.keep(0), true);
        x.strike(0);
        Calls.due("again", x.again(0), true);
        Calls.due("two strikes", x.minutes(), Calls.code("aab"));
    }

    private static void again() {
        Calls.of("40");
        StrikeWhatCancels x = Calls.with("b>a;ab>", "bbb");
        x.strike(0);
        x.seed(77);
        x.weigh(7, 5);
        x.wide(6);
        Calls.due("keep", x.keep(1), true);
        Calls.speech(x, "cc");
        x.seed(5);
        x.weigh(7, 6);
        x.weigh(0, 6);
        x.wide(2);
        x.swap(0, 1);
        x.can();
        Calls.text(x, "abc");
        Calls.due("refused", x.again(0), false);
        Calls.due("again", x.again(1), true);
        Calls.due("R", x.seed(1), 77);
        Calls.due("minutes", x.minutes(), Calls.code("abb"));
        Calls.due("strikes", x.count(3), 0);
        Calls.due("undo", x.undo(), -1);
        Calls.due("speech", x.anew(), Calls.code("bbb"));
        Calls.due("weight", x.weigh(7, 1), 5);
        Calls.due("weight", x.weigh(0, 1), 1);
        Calls.due("WIDE", x.wide(3), 6);
        Calls.due("rules stay as they are", x.rule(0, 0), Calls.code("ab"));
        Calls.row(x, 0, 0);
        Calls.due("the text stays", x.count(6), 3);
        Calls.due("again", x.again(1), true);
        Calls.due("as it was kept", x.weigh(7, 1), 5);
        Calls.due("as it was kept", x.seed(1), 77);
        Calls.due("a strike", x.strike(0) >= 0, true);
        Calls.due("strikes", x.count(3), 1);
        Calls.due("again", x.again(1), true);
        Calls.due("no strike can be undone", x.count(3), 0);
        Calls.due("undo", x.undo(), -1);
    }

    private static void count() {
        Calls.of("41");
        StrikeWhatCancels x = Calls.with("b>a;ab>", "bbb");
        x.run(0, 2);
        Calls.text(x, "hhhhh");
        x.wide(7);
        long[] due = {2, 3, 1, 2, 7, 3, 5};
        for (int what = 0; what < due.length; what++) {
            Calls.due("count(" + what + ")", x.count(what), due[what]);
        }
        int[] no = {-1, 7, Integer.MAX_VALUE, Integer.MIN_VALUE};
        for (int what : no) {
            Calls.due("count(" + what + ")", x.count(what), -1);
        }
    }

    private static void minutes() {
        Calls.of("42");
        StrikeWhatCancels x = Calls.with("b>a;ab>", "bbb");
        Calls.due("minutes", x.minutes(), Calls.code("bbb"));
        x.strike(0);
        Calls.due("minutes", x.minutes(), Calls.code("abb"));
        x.strike(0);
        Calls.due("minutes", x.minutes(), Calls.code("b"));
        Calls.due("none", new StrikeWhatCancels().minutes(), 0);
    }

    private static void row() {
        Calls.of("43");
        StrikeWhatCancels x = Calls.with("b>a;ab>", "bbb");
        Calls.due("none yet", Calls.rowThrows(x, 0), true);
        x.can();
        Calls.due("row(0)", x.row(0), 3);
        Calls.due("row(1)", x.row(1), 0);
        int[] no = {-1, 2, Integer.MAX_VALUE, Integer.MIN_VALUE};
        for (int i : no) {
            Calls.due("row(" + i + ") throws", Calls.rowThrows(x, i), true);
        }
        x.strike(9);
        x.done(-1);
        x.way(1000000);
        x.minutes();
        x.still(3);
        x.idle();
        x.book();
        x.speak(0);
        Calls.row(x, 3, 0);
        x.clerks();
        x.weights();
        Calls.row(x, 1, 2, 1, 1, 1, 1, 1, 1);
        x.meet(1, 3);
        Calls.row(x);
    }
}
