/** Promises 1 to 11. */
public final class BookTest {
    public static void main(String[] args) {
        newObject();
        sign();
        end();
        bookOfLines();
        bookAllOrNothing();
        bookOfLength();
        speech();
        speak();
        rule();
        weigh();
        sheet();
        sheetOfEntries();
        wide();
        swap();
        Calls.leave();
    }

    private static void newObject() {
        Calls.of("1");
        StrikeWhatCancels x = new StrikeWhatCancels();
        long[] counts = {0, 0, 0, 0, 3, 0, 0};
        for (int what = 0; what < counts.length; what++) {
            Calls.due("count(" + what + ")", x.count(what), counts[what]);
        }
        for (int w = 0; w < 8; w++) {
            Calls.due("weigh", x.weigh(w, 2), 1);
        }
        Calls.due("minutes", x.minutes(), 0);
        Calls.due("seed", x.seed(4), 1);
        Calls.due("NONE", StrikeWhatCancels.NONE, -1);
        Calls.row(x);
    }

    private static void sign() {
        Calls.of("2");
        StrikeWhatCancels x = new StrikeWhatCancels();
        for (int n = 4; n <= 80; n += 4) {
            Calls.due("sign", x.sign(0x61623E61), n);
        }
        Calls.due("too many", x.sign(0), -1);
        Calls.due("signs", x.count(6), 80);
        Calls.due("end", x.end(77), true);
        Calls.due("behind 77", x.sign(0), -1);
        Calls.due("end", x.end(76), true);
        Calls.due("behind 76", x.sign(0), 80);
        Calls.due("end", x.end(4), true);
        Calls.due("book", x.book(), 1);
        Calls.due("the highest byte first", x.rule(0, 0), Calls.code("ab"));
        Calls.due("the lowest byte last", x.rule(0, 1), Calls.code("a"));
        Calls.due("bytes above 127", x.sign(0x61FFFFFF), 4);
        Calls.due("are no words", x.speech(), -2);
    }

    private static void end() {
        Calls.of("3");
        StrikeWhatCancels x = new StrikeWhatCancels();
        Calls.due("end(0)", x.end(0), true);
        Calls.due("end(1)", x.end(1), false);
        Calls.due("end(-1)", x.end(-1), false);
        x.sign(0x61626364);
        Calls.due("end(5)", x.end(5), false);
        Calls.due("end(MAX)", x.end(Integer.MAX_VALUE), false);
        Calls.due("end(MIN)", x.end(Integer.MIN_VALUE), false);
        Calls.due("signs", x.count(6), 4);
        Calls.due("end(4)", x.end(4), true);
        Calls.due("end(3)", x.end(3), true);
        Calls.due("signs", x.count(6), 3);
        Calls.due("end(4) again", x.end(4), false);
        Calls.due("speech", x.speech(), 3);
        Calls.due("minutes", x.minutes(), Calls.code("abc"));
    }

    private static void bookOfLines() {
        Calls.of("4");
        String[] texts = {"", "a>", "ab>ba", "ba>ab", "a>;", ";a>", "a>;;b>", "a=5", "a=0", "a=55", "a=9;b=1", "i>", "A>",
            "abcdef>", "bbbbb>aaaaaa", "bbbbb>aaaaa", "a>bc;b>", "ab", "a", "a=", "ab=1", ">", "a>>", "a>b", "a>a", "b>a",
            "ab>aa;", "a>=", "aaaaa>hhhh", "a>bi", "a 1", "h=9;gh>h;ab>", "a:5", "a=:", "a>bbbbbb", "aa>b", "aa>ab"};
        int[] due = {0, 1, -6, 1, -4, -1, -4, 1, -3, -4, 2, -1, -1,
            -6, -12, 1, -5, -3, -2, -3, -3, -1, -3, -4, -4, 1,
            -7, -3, 1, -4, -2, 3, -2, -3, -8, 1, -6};
        for (int k = 0; k < texts.length; k++) {
            StrikeWhatCancels x = new StrikeWhatCancels();
            Calls.due("book of " + texts[k], Calls.book(x, texts[k]), due[k]);
            Calls.due("signs behind " + texts[k], x.count(6), 0);
            Calls.due("rules of " + texts[k], x.count(0) > 0, due[k] > 0 && texts[k].indexOf('>') > 0);
        }
    }

    private static void bookAllOrNothing() {
        Calls.of("4, all of it or nothing");
        StrikeWhatCancels x = new StrikeWhatCancels();
        Calls.due("a line that can't", Calls.book(x, "b>a;c=9;x"), -9);
        Calls.due("no rule of it", x.count(0), 0);
        Calls.due("no weight of it", x.weigh(2, 1), 1);
        Calls.due("lines", Calls.book(x, "b>a;c=9;c=8;dc>ab"), 4);
        Calls.due("lines behind", Calls.book(x, "cc>"), 1);
        Calls.due("rules", x.count(0), 3);
        Calls.due("left of 1", x.rule(1, 0), Calls.code("dc"));
        Calls.due("right of 1", x.rule(1, 1), Calls.code("ab"));
        Calls.due("left of 2", x.rule(2, 0), Calls.code("cc"));
        Calls.due("right of 2", x.rule(2, 1), 0);
        Calls.due("the later weight", x.weigh(2, 5), 8);
        Calls.due("one line", Calls.book(x, "c=1"), 1);
        Calls.due("a weight of 1", x.weigh(2, 1), 1);
        Calls.due("two lines", Calls.book(x, "a=7;h=6"), 2);
        Calls.due("the first word", x.weigh(0, 1), 7);
        Calls.due("the last word", x.weigh(7, 1), 6);
    }

    private static void bookOfLength() {
        Calls.of("4, how much");
        String twelve = "a>;a>;a>;a>;a>;a>;a>;a>;a>;a>;a>;a>";
        StrikeWhatCancels x = new StrikeWhatCancels();
        Calls.due("thirteen", Calls.book(x, twelve + ";a>"), -38);
        Calls.due("none of them", x.count(0), 0);
        Calls.due("twelve", Calls.book(x, twelve), 12);
        Calls.due("no room", Calls.book(x, "a=2;ab>"), -7);
        Calls.due("a weight still", Calls.book(x, "a=3"), 1);
        Calls.due("rules", x.count(0), 12);
        Calls.due("weight", x.weigh(0, 1), 3);
        String weights = "a=1;a=1;a=1;a=1;a=1;a=1;a=1;a=1;a=1;a=1;a=1;a=1;a=1;a=1;a=1;a=1;a=1;a=1";
        x = new StrikeWhatCancels();
        Calls.due("76 signs", Calls.book(x, "ab>a;" + weights), 19);
        Calls.due("77 signs", Calls.book(x, "ab>a;" + weights + ";"), -77);
        Calls.due("77 signs that end well", Calls.book(x, "ab>aa;" + weights), -77);
        Calls.due("77 signs, wrong sooner", Calls.book(x, "ab>ab;" + weights), -6);
        Calls.due("80 signs", Calls.book(x, "ab>a;" + weights + ";a=1"), -77);
        Calls.due("80 signs, wrong sooner", Calls.book(x, "ab>a;a=0" + weights), -8);
        Calls.due("76 signs that end too early", Calls.book(x, "ab>;" + weights + ";"), -77);
        Calls.due("rules", x.count(0), 1);
    }

    private static void speech() {
        Calls.of("5");
        StrikeWhatCancels x = Calls.with("a>", "abca");
        Calls.due("words", x.count(1), 4);
        Calls.due("words", x.count(2), 4);
        Calls.due("minutes", x.minutes(), Calls.code("abca"));
        Calls.due("strike", x.strike(0), 0);
        Calls.due("a wrong word", Calls.speech(x, "abi"), -3);
        Calls.due("signs", x.count(6), 0);
        Calls.due("minutes stay", x.minutes(), Calls.code("bca"));
        Calls.due("strikes stay", x.count(3), 1);
        Calls.due("no word", Calls.speech(x, "a>"), -2);
        Calls.due("no word at all", Calls.speech(x, ";"), -1);
        Calls.due("fifteen", Calls.speech(x, "aaaaaaaaaaaaaaa"), -15);
        Calls.due("twenty, wrong at 3", Calls.speech(x, "aaa=aaaaaaaaaaaaaaaa"), -4);
        Calls.due("minutes stay", x.minutes(), Calls.code("bca"));
        Calls.due("fourteen", Calls.speech(x, "habcdefghhhhhh"), 14);
        Calls.due("minutes", x.minutes(), Calls.code("habcdefghhhhhh"));
        Calls.due("strikes", x.count(3), 0);
        Calls.due("undo", x.undo(), -1);
        Calls.due("none", Calls.speech(x, ""), 0);
        Calls.due("words", x.count(1), 0);
        Calls.due("minutes", x.minutes(), 0);
    }

    private static void speak() {
        Calls.of("6");
        StrikeWhatCancels x = Calls.with("a>", "a");
        Calls.due("strike", x.strike(0), 0);
        long[] no = {-1, 9, 90, 81, 22876792454961L, Long.MAX_VALUE, Long.MIN_VALUE, 22876792454960L * 9 + 1};
        for (long c : no) {
            Calls.due("speak(" + c + ")", x.speak(c), -1);
        }
        Calls.due("strikes stay", x.count(3), 1);
        Calls.due("the greatest", x.speak(22876792454960L), 14);
        Calls.due("strikes", x.count(3), 0);
        Calls.due("minutes", x.minutes(), Calls.code("hhhhhhhhhhhhhh"));
        Calls.due("one word", x.speak(8), 1);
        Calls.due("ab", x.speak(11), 2);
        Calls.due("words", x.count(1), 2);
        Calls.due("words", x.count(2), 2);
        Calls.due("none", x.speak(0), 0);
        Calls.due("anew", x.anew(), 0);
    }

    private static void rule() {
        Calls.of("7");
        StrikeWhatCancels x = Calls.with("abc>ba;h>;a=3;b=2;c=9;ca>bd");
        Calls.due("left", x.rule(0, 0), Calls.code("abc"));
        Calls.due("right", x.rule(0, 1), Calls.code("ba"));
        Calls.due("less", x.rule(0, 2), 9);
        Calls.due("left", x.rule(1, 0), 8);
        Calls.due("right", x.rule(1, 1), 0);
        Calls.due("less", x.rule(1, 2), 1);
        Calls.due("less", x.rule(2, 2), 9);
        x.weigh(3, 9);
        x.weigh(2, 1);
        Calls.due("more behind it", x.rule(2, 2), -7);
        int[][] no = {{-1, 0}, {3, 0}, {0, -1}, {0, 3}, {Integer.MAX_VALUE, 0}, {Integer.MIN_VALUE, 2}};
        for (int[] k : no) {
            Calls.due("throws", Calls.ruleThrows(x, k[0], k[1]), true);
        }
        Calls.due("no rules", Calls.ruleThrows(new StrikeWhatCancels(), 0, 0), true);
    }

    private static void weigh() {
        Calls.of("8");
        StrikeWhatCancels x = Calls.with("h>");
        Calls.due("was", x.weigh(7, 9), 1);
        Calls.due("was", x.weigh(7, 1), 9);
        Calls.due("was", x.weigh(7, 4), 1);
        Calls.due("less", x.rule(0, 2), 4);
        Calls.due("was", x.weigh(0, 5), 1);
        int[][] no = {{-1, 1}, {8, 1}, {7, 0}, {7, 10}, {7, -1}, {Integer.MIN_VALUE, 5}};
        for (int[] k : no) {
            Calls.due("refused", x.weigh(k[0], k[1]), -1);
        }
        Calls.due("stays", x.weigh(7, 1), 4);
        Calls.due("stays", x.weigh(0, 1), 5);
    }

    private static void sheet() {
        Calls.of("9");
        StrikeWhatCancels x = new StrikeWhatCancels();
        Calls.due("sums up", x.sheet(2, 8, 1, 1), 36);
        Calls.due("another kind", x.sheet(4, 0, 1, 1), -1);
        Calls.due("another kind", x.sheet(-1, -1, 1, 1), -1);
        Calls.due("too many", x.sheet(0, 9, 1, 1), -1);
        Calls.due("too many of a missing one", x.sheet(3, 9, 1, 1), -1);
        Calls.due("below 0", x.sheet(0, -1, 1, 1), -2);
        Calls.due("below 0", x.sheet(1, Integer.MIN_VALUE, 1, 1), -2);
        Calls.due("below 0", x.sheet(2, -8, 1, 1), -2);
        Calls.due("nothing has changed", x.weigh(7, 8), 8);
        Calls.due("missing", x.sheet(3, 8, 5, 1), -3);
        Calls.due("all are 1", x.weigh(0, 7), 1);
        Calls.due("all are 1", x.weigh(7, 7), 1);
        Calls.due("missing, below 0", x.sheet(3, -5, 5, 1), -3);
        Calls.due("all are 1", x.weigh(7, 7), 1);
        Calls.due("no entries", x.sheet(0, 0, 5, 1), 8);
        Calls.due("those behind are 1", x.sheet(1, 2, 5, 1), 17);
        Calls.due("entry 0", x.weigh(0, 1), 5);
        Calls.due("entry 1", x.weigh(1, 1), 6);
        Calls.due("behind", x.weigh(2, 1), 1);
        Calls.row(x);
    }

    private static void sheetOfEntries() {
        Calls.of("9, entries");
        StrikeWhatCancels x = new StrikeWhatCancels();
        Calls.due("put to 1 .. 9", x.sheet(2, 8, -20, 10), 1 + 1 + 1 + 9 + 9 + 9 + 9 + 9);
        Calls.due("bytes: 259 is 3", x.sheet(0, 1, 259, 0), 10);
        Calls.due("bytes: 200 is below 0", x.sheet(0, 1, 200, 0), 8);
        Calls.due("bytes: -250 is 6", x.sheet(0, 1, -250, 0), 13);
        Calls.due("bytes: 127 is 9", x.sheet(0, 1, 127, 0), 16);
        Calls.due("shorts: 65538 is 2", x.sheet(1, 1, 65538, 0), 9);
        Calls.due("shorts: 40000 is below 0", x.sheet(1, 1, 40000, 0), 8);
        Calls.due("shorts: 259 is 9", x.sheet(1, 1, 259, 0), 16);
        Calls.due("ints: 65538 is 9", x.sheet(2, 1, 65538, 0), 16);
        Calls.due("ints come round", x.sheet(2, 2, Integer.MAX_VALUE, 1), 9 + 1 + 6);
        Calls.due("ints come round", x.sheet(2, 3, 5, Integer.MIN_VALUE), 5 + 1 + 5 + 5);
        Calls.due("steps down", x.sheet(0, 3, 9, -3), 9 + 6 + 3 + 5);
        Calls.due("steps of 256", x.sheet(0, 4, 2, 256), 8 + 4);
    }

    private static void wide() {
        Calls.of("10");
        StrikeWhatCancels x = new StrikeWhatCancels();
        Calls.due("was", x.wide(8), 3);
        Calls.due("was", x.wide(1), 8);
        int[] no = {0, 9, -1, Integer.MAX_VALUE, Integer.MIN_VALUE};
        for (int v : no) {
            Calls.due("refused", x.wide(v), -1);
        }
        Calls.due("stays", x.count(4), 1);
        Calls.due("one word", x.still(5), 1);
        Calls.due("was", x.wide(2), 1);
        Calls.due("two words", x.still(5), 32);
    }

    private static void swap() {
        Calls.of("11");
        StrikeWhatCancels x = Calls.with("a>;bb>c;cc>b", "abb");
        int[][] no = {{0, 0}, {2, 2}, {0, 3}, {3, 0}, {-1, 0}, {0, -1}, {5, 5}};
        for (int[] k : no) {
            Calls.due("refused", x.swap(k[0], k[1]), false);
        }
        Calls.due("swap", x.swap(2, 0), true);
        Calls.due("left of 0", x.rule(0, 0), Calls.code("cc"));
        Calls.due("right of 0", x.rule(0, 1), Calls.code("b"));
        Calls.due("left of 1", x.rule(1, 0), Calls.code("bb"));
        Calls.due("left of 2", x.rule(2, 0), Calls.code("a"));
        Calls.due("right of 2", x.rule(2, 1), 0);
        Calls.due("by rules", x.strike(2), 1);
        Calls.due("net", x.net(), 2);
        Calls.due("swap", x.swap(1, 2), true);
        Calls.due("strike", x.strike(2), 1);
        Calls.due("no rules", new StrikeWhatCancels().swap(0, 1), false);
    }
}
