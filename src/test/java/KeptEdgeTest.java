import java.util.function.Supplier;

/** The boundaries of promises 38 to 43. */
public final class KeptEdgeTest {
    private static final int[] NUMBERS = {-1, 3, 4, Integer.MAX_VALUE, Integer.MIN_VALUE};

    public static void main(String[] args) {
        Edge.all(KeptEdgeTest.class);
    }

    // ---- promise 38

    @Says("R becomes v: what it was. (any int)")
    static void promise38Seed() {
        StrikeWhatCancels x = new StrikeWhatCancels();
        int was = 1;
        for (int v : new int[] {0, -1, Integer.MAX_VALUE, Integer.MIN_VALUE, 65536, 1}) {
            Calls.due("seed(" + v + ")", x.seed(v), was);
            was = v;
        }
    }

    @Says("R becomes v (nothing else changes)")
    static void promise38NothingElse() {
        Edge.stays("seed(-5), which R is", x -> x.seed(-5), -5);
    }

    @Says("R becomes v (a DRAW goes on from it)")
    static void promise38DrawGoesOn() {
        StrikeWhatCancels x = Calls.with("b>a", "bbbb");
        x.seed(0);
        x.strike(3);
        Calls.due("R", x.seed(0), 12345);
        x.strike(3);
        Calls.due("R", x.seed(0), 12345);
    }

    // ---- promise 39

    @Says("are kept under a number 0 .. 2: true.")
    static void promise39EachItsOwn() {
        StrikeWhatCancels x = Calls.with("b>a", "bbb");
        for (int i = 0; i < 3; i++) {
            x.strike(0);
            Calls.due("keep(" + i + ")", x.keep(i), true);
        }
        String[] minutes = {"abb", "aab", "aaa"};
        for (int i : new int[] {2, 0, 1, 2}) {
            Calls.due("again(" + i + ")", x.again(i), true);
            Calls.due("THE MINUTES", x.minutes(), Calls.code(minutes[i]));
        }
    }

    @Says("THE SPEECH, THE MINUTES, R, WEIGHTS, WIDE are kept (nothing changes by it)")
    static void promise39NothingChanges() {
        StrikeWhatCancels x = Edge.busy();
        Calls.due("keep(2)", x.keep(2), true);
        Calls.due("STRIKES to undo", x.count(3), 3);
        Calls.due("undo", x.undo(), 2);
        Calls.due("the ROW", x.count(5), 3);
        Calls.due("signs", x.count(6), 11);
        Calls.due("keep(2) anew", x.keep(2), true);
        long minutes = x.minutes();
        x.anew();
        Calls.due("again(2)", x.again(2), true);
        Calls.due("THE MINUTES kept last", x.minutes(), minutes);
    }

    @Says("are kept (what is made behind it does not come in)")
    static void promise39AsTheyWere() {
        StrikeWhatCancels x = Edge.busy();
        x.keep(0);
        String kept = Edge.all(x);
        StrikeWhatCancels y = Edge.busy();
        y.keep(0);
        y.speak(8);
        y.seed(4);
        y.wide(8);
        y.sheet(3, 0, 0, 0);
        Calls.due("again(0)", y.again(0), true);
        Calls.due("again(0)", Edge.busy().again(0), false);
        String behind = Edge.all(y);
        Calls.due("what was kept first", behind.substring(behind.indexOf("first")), kept.substring(kept.indexOf("first")));
    }

    @Says("Refused: others.")
    static void promise39Others() {
        for (int i : NUMBERS) {
            Edge.stays("keep(" + i + ")", x -> x.keep(i) ? 1 : 0, 0);
        }
    }

    // ---- promise 40

    @Says("They are as they were kept under a number")
    static void promise40Again() {
        StrikeWhatCancels x = Calls.with("b>a", "bbb");
        x.strike(0);
        x.seed(6);
        x.sheet(2, 8, 2, 1);
        x.wide(8);
        x.keep(2);
        x.speak(8);
        x.seed(7);
        x.sheet(3, 0, 0, 0);
        x.wide(1);
        Calls.due("again", x.again(2), true);
        Calls.due("THE MINUTES", x.minutes(), Calls.code("abb"));
        Calls.due("WORDS of THE SPEECH", x.count(1), 3);
        Calls.due("WIDE", x.count(4), 8);
        Calls.due("R", x.seed(1), 6);
        Calls.due("WEIGHTS", Edge.weightsOf(x), "23456789");
        Calls.due("THE SPEECH", x.anew(), Calls.code("bbb"));
        Calls.due("again, once more", x.again(2), true);
        Calls.due("R", x.seed(1), 6);
        Calls.due("WEIGHTS", Edge.weightsOf(x), "23456789");
    }

    @Says("(no STRIKE can be undone then)")
    static void promise40NoUndo() {
        StrikeWhatCancels x = Edge.busy();
        x.keep(0);
        Calls.due("STRIKES to undo", x.count(3), 3);
        Calls.due("again", x.again(0), true);
        Calls.due("STRIKES to undo", x.count(3), 0);
        long minutes = x.minutes();
        Calls.due("undo", x.undo(), -1);
        Calls.due("THE MINUTES", x.minutes(), minutes);
    }

    @Says("They are as they were kept (RULES, THE TEXT, the ROW are not kept)")
    static void promise40OthersStay() {
        StrikeWhatCancels x = Edge.busy();
        x.keep(0);
        x.book();
        x.swap(0, 3);
        Calls.text(x, "abc");
        x.run(0, 0);
        String rules = Edge.rulesOf(x);
        String row = Edge.rowOf(x);
        Calls.due("again", x.again(0), true);
        Calls.due("RULES", Edge.rulesOf(x), rules);
        Calls.due("the ROW", Edge.rowOf(x), row);
        Calls.due("signs", x.count(6), 3);
    }

    @Says("Refused: nothing kept.")
    static void promise40NothingKept() {
        Edge.stays("again(0)", x -> x.again(0) ? 1 : 0, 0);
        Edge.stays("again(2)", x -> x.again(2) ? 1 : 0, 0);
        for (int i = 0; i < 3; i++) {
            int n = i;
            Edge.stays("again(" + n + ") of a new object", StrikeWhatCancels::new, x -> x.again(n) ? 1 : 0, 0);
        }
    }

    @Says("Refused: nothing kept. (under another number)")
    static void promise40Others() {
        for (int i : NUMBERS) {
            Edge.stays("again(" + i + ")", x -> x.again(i) ? 1 : 0, 0);
        }
    }

    // ---- promise 41

    @Says("What 0: RULES (0, 12)")
    static void promise41Rules() {
        StrikeWhatCancels x = new StrikeWhatCancels();
        Calls.due("none", x.count(0), 0);
        Calls.book(x, "a>;a=2;b>");
        Calls.due("two", x.count(0), 2);
        Calls.book(x, "a>;a>;a>;a>;a>;a>;a>;a>;a>;a>");
        Calls.due("twelve", x.count(0), 12);
        Calls.book(x, "a>");
        Calls.due("twelve still", x.count(0), 12);
    }

    @Says("1: WORDS of THE SPEECH, 2: of THE MINUTES (0, 14)")
    static void promise41Words() {
        StrikeWhatCancels x = Calls.with("aa>");
        Calls.due("of THE SPEECH", x.count(1), 0);
        Calls.due("of THE MINUTES", x.count(2), 0);
        Calls.speech(x, "a".repeat(14));
        Calls.due("of THE SPEECH", x.count(1), 14);
        Calls.due("of THE MINUTES", x.count(2), 14);
        x.strike(0);
        Calls.due("of THE SPEECH", x.count(1), 14);
        Calls.due("of THE MINUTES", x.count(2), 12);
        x.run(0, 500);
        Calls.due("of THE SPEECH", x.count(1), 14);
        Calls.due("of THE MINUTES", x.count(2), 0);
    }

    @Says("3: STRIKES that can be undone (0, 64)")
    static void promise41Strikes() {
        StrikeWhatCancels x = Calls.with(Edge.SEVEN, "g".repeat(14));
        Calls.due("none", x.count(3), 0);
        for (int n = 1; n <= 66; n++) {
            x.strike(0);
            Calls.due("STRIKES", x.count(3), Math.min(64, n));
        }
        x.undo();
        Calls.due("STRIKES", x.count(3), 63);
    }

    @Says("4: WIDE (1, 8)")
    static void promise41Wide() {
        StrikeWhatCancels x = new StrikeWhatCancels();
        Calls.due("at first", x.count(4), 3);
        x.wide(1);
        Calls.due("the least", x.count(4), 1);
        x.wide(8);
        Calls.due("the most", x.count(4), 8);
        x.wide(9);
        Calls.due("refused", x.count(4), 8);
    }

    @Says("5: numbers of the ROW (0; 24 of twelve RULES added)")
    static void promise41Row() {
        StrikeWhatCancels x = Calls.with("ab>;ba>a;cd>;dc>c;ef>;fe>e;gh>;hg>g");
        Calls.due("at first", x.count(5), 0);
        x.net();
        Calls.due("three", x.count(5), 3);
        x.complete(12);
        Calls.due("twenty-four", x.count(5), 24);
        x.strike(0);
        Calls.due("DONE", x.count(5), 24);
        x.meet(1, 2);
        Calls.due("none", x.count(5), 0);
    }

    @Says("6: signs of THE TEXT (0, 80)")
    static void promise41Signs() {
        StrikeWhatCancels x = new StrikeWhatCancels();
        Calls.due("at first", x.count(6), 0);
        for (int n = 4; n <= 80; n += 4) {
            x.sign(n);
            Calls.due("signs", x.count(6), n);
        }
        x.sign(0);
        Calls.due("refused", x.count(6), 80);
        x.end(79);
        Calls.due("one less", x.count(6), 79);
        x.book();
        Calls.due("read", x.count(6), 0);
    }

    @Says("NONE for another what.")
    static void promise41AnotherWhat() {
        for (int what : new int[] {-1, 7, Integer.MAX_VALUE, Integer.MIN_VALUE}) {
            Edge.stays("count(" + what + ")", x -> x.count(what), -1);
        }
        for (int what = 0; what < 7; what++) {
            int w = what;
            Edge.stays("count(" + w + ")", x -> x.count(w), new long[] {3, 8, 6, 3, 5, 3, 11}[w]);
        }
    }

    // ---- promise 42

    @Says("CODE of THE MINUTES. (no WORDS, the greatest)")
    static void promise42Minutes() {
        StrikeWhatCancels x = new StrikeWhatCancels();
        Calls.due("no WORDS", x.minutes(), 0);
        x.speak(22876792454960L);
        Calls.due("fourteen h", x.minutes(), 22876792454960L);
        Edge.stays("minutes", y -> y.minutes(), Edge.busy().minutes());
    }

    @Says("CODE of THE MINUTES (not of THE SPEECH)")
    static void promise42NotOfTheSpeech() {
        StrikeWhatCancels x = Calls.with("b>a", "bb");
        x.strike(1);
        Calls.due("THE MINUTES", x.minutes(), Calls.code("ba"));
        x.undo();
        Calls.due("THE MINUTES", x.minutes(), Calls.code("bb"));
    }

    // ---- promise 43

    @Says("Number i of the ROW. (the first, the last)")
    static void promise43Row() {
        StrikeWhatCancels x = Calls.with("ab>;ba>a;cd>;dc>c;ef>;fe>e;gh>;hg>g");
        x.complete(12);
        Calls.due("the first", x.row(0), Calls.code("aa"));
        Calls.due("the last but one", x.row(22), 7);
        Calls.due("the last", x.row(23), 0);
        Calls.due("behind it, throws", Calls.rowThrows(x, 24), true);
    }

    @Says("NoSuchElementException: none such.")
    static void promise43NoneSuch() {
        for (int i : new int[] {-1, 3, 4, 32, Integer.MAX_VALUE, Integer.MIN_VALUE}) {
            Edge.stays("row(" + i + ") throws", x -> Calls.rowThrows(x, i) ? 1 : 0, 1);
        }
        for (int i = 0; i < 3; i++) {
            int n = i;
            Edge.stays("row(" + n + ") throws", x -> Calls.rowThrows(x, n) ? 1 : 0, 0);
        }
    }

    @Says("NoSuchElementException: none such. (an empty ROW)")
    static void promise43EmptyRow() {
        Supplier<StrikeWhatCancels> empty = () -> {
            StrikeWhatCancels x = Edge.busy();
            Calls.due("way to itself", x.way(x.minutes()), 0);
            return x;
        };
        for (int i : new int[] {-1, 0, 1}) {
            Edge.stays("row(" + i + ") throws", empty, x -> Calls.rowThrows(x, i) ? 1 : 0, 1);
            Edge.stays("row(" + i + ") of a new object throws", StrikeWhatCancels::new, x -> Calls.rowThrows(x, i) ? 1 : 0, 1);
        }
    }

    @Says("THE ROW: numbers told last (a shorter one behind a longer one)")
    static void promise43AShorterOne() {
        StrikeWhatCancels x = Calls.with("b>a", "ab");
        x.clerks();
        Calls.due("six", x.count(5), 6);
        x.can();
        Calls.due("one", x.count(5), 1);
        Calls.due("row(0)", x.row(0), 1);
        Calls.due("row(1) throws", Calls.rowThrows(x, 1), true);
        Calls.due("row(5) throws", Calls.rowThrows(x, 5), true);
    }
}
