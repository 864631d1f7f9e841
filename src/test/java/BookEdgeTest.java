import java.util.function.Supplier;

/** The boundaries of promises 1 to 11. */
public final class BookEdgeTest {
    private static final String TWELVE = "a>;a>;a>;a>;a>;a>;a>;a>;a>;a>;a>;a>";
    /** 71 signs. */
    private static final String WEIGHTS = "a=1;" + "b=1;".repeat(16) + "c=1";

    public static void main(String[] args) {
        Edge.all(BookEdgeTest.class);
    }

    private static StrikeWhatCancels none() {
        return new StrikeWhatCancels();
    }

    /** An object whose TEXT has these signs. */
    private static Supplier<StrikeWhatCancels> told(String text) {
        return () -> {
            StrikeWhatCancels x = Edge.busy();
            Calls.text(x, "");
            x.end(0);
            Calls.text(x, text);
            Calls.due("signs", x.count(6), text.length());
            return x;
        };
    }

    /** A text that can't be: the sign at p can't stand there, and nothing changes but THE TEXT. */
    private static void wrong(String text, int p) {
        Edge.alike("book of " + text, told(text), x -> x.book(), -1 - p, x -> x.end(0));
    }

    private static void wrongSpeech(String text, int p) {
        Edge.alike("speech of " + text, told(text), x -> x.speech(), -1 - p, x -> x.end(0));
    }

    // ---- promise 1

    @Says("No RULES, no words.")
    static void promise01NoRulesNoWords() {
        StrikeWhatCancels x = none();
        Calls.due("RULES", x.count(0), 0);
        Calls.due("rule(0, 0) throws", Calls.ruleThrows(x, 0, 0), true);
        Calls.due("WORDS of THE SPEECH", x.count(1), 0);
        Calls.due("WORDS of THE MINUTES", x.count(2), 0);
        Calls.due("THE MINUTES", x.minutes(), 0);
        Calls.due("THE SPEECH", x.anew(), 0);
        Calls.due("STRIKES", x.can(), 0);
    }

    @Says("WIDE 1 .. 8 (at first 3), WEIGHTS of WORDS 1 .. 9 (at first 1), R at first 1")
    static void promise01AtFirst() {
        StrikeWhatCancels x = none();
        Calls.due("WIDE", x.count(4), 3);
        Calls.due("WEIGHTS", Edge.weightsOf(x), "11111111");
        Calls.due("R", x.seed(9), 1);
    }

    @Says("A new object: THE TEXT, THE ROW have nothing, no STRIKE can be undone, nothing is kept")
    static void promise01NothingElse() {
        StrikeWhatCancels x = none();
        Calls.due("signs", x.count(6), 0);
        Calls.due("numbers of the ROW", x.count(5), 0);
        Calls.due("row(0) throws", Calls.rowThrows(x, 0), true);
        Calls.due("STRIKES to undo", x.count(3), 0);
        Calls.due("undo", x.undo(), -1);
        for (int i = 0; i < 3; i++) {
            Calls.due("again(" + i + ")", x.again(i), false);
        }
    }

    @Says("A new object has nothing of another one")
    static void promise01EachItsOwn() {
        String fresh = Edge.all(none());
        Edge.all(Edge.busy());
        Calls.due("a new object behind another one", Edge.all(none()), fresh);
    }

    // ---- promise 2

    @Says("Four signs come behind THE TEXT, of v the highest byte first")
    static void promise02HighestByteFirst() {
        StrikeWhatCancels x = none();
        Calls.due("sign", x.sign(0x61626364), 4);
        Calls.due("sign", x.sign(0x65666768), 8);
        Calls.due("speech", x.speech(), 8);
        Calls.due("THE MINUTES", x.minutes(), Calls.code("abcdefgh"));
    }

    @Says("how many it has")
    static void promise02HowMany() {
        StrikeWhatCancels x = none();
        for (int n = 4; n <= 80; n += 4) {
            Calls.due("sign", x.sign(0x61616161), n);
            Calls.due("signs", x.count(6), n);
        }
    }

    @Says("Refused: there would be more than 80. (80 are not)")
    static void promise02EightyAreTaken() {
        StrikeWhatCancels x = told("h".repeat(76)).get();
        Calls.due("sign behind 76", x.sign(0x61626364), 80);
        Calls.due("signs", x.count(6), 80);
    }

    @Says("Refused: there would be more than 80.")
    static void promise02MoreThanEightyAreRefused() {
        for (int n = 77; n <= 79; n++) {
            Edge.stays("sign behind " + n, told("h=1;".repeat(19) + "abc".substring(0, n - 76)),
                x -> x.sign(0x61626364), -1);
        }
        Supplier<StrikeWhatCancels> eighty = () -> {
            StrikeWhatCancels x = told("h=1;".repeat(19)).get();
            x.sign(0x61626364);
            return x;
        };
        Edge.stays("sign behind 80", eighty, x -> x.sign(0), -1);
    }

    @Says("Refused: .. change nothing (no sign of the four comes)")
    static void promise02NoneOfTheFourComes() {
        StrikeWhatCancels x = told("ab" + "h".repeat(75)).get();
        Calls.due("sign behind 77", x.sign(0x63636363), -1);
        Calls.due("there are no more than 77", x.end(78), false);
        Calls.due("end(2)", x.end(2), true);
        Calls.due("speech", x.speech(), 2);
        Calls.due("THE MINUTES", x.minutes(), Calls.code("ab"));
    }

    @Says("Four signs (each 0 .. 255)")
    static void promise02AnySigns() {
        StrikeWhatCancels x = none();
        Calls.due("sign", x.sign(0), 4);
        Calls.due("sign", x.sign(-1), 8);
        Calls.due("sign", x.sign(Integer.MIN_VALUE), 12);
        Calls.due("the first can't stand there", x.speech(), -1);
        // 225 is a's 97 with the highest bit.
        Calls.due("sign", x.sign(0x61E16161), 4);
        Calls.due("the second can't stand there", x.speech(), -2);
    }

    // ---- promise 3

    @Says("THE TEXT has its first n signs alone: true")
    static void promise03FirstSignsAlone() {
        Calls.due("end(3)", told("abcd").get().end(3), true);
        StrikeWhatCancels x = told("abcd").get();
        x.end(3);
        Calls.due("signs", x.count(6), 3);
        Calls.due("sign behind 3", x.sign(0x68676665), 7);
        Calls.due("speech", x.speech(), 7);
        Calls.due("THE MINUTES", x.minutes(), Calls.code("abchgfe"));
    }

    @Says("its first n signs (n as many as it has)")
    static void promise03AsManyAsItHas() {
        Edge.stays("end(4) of four", told("h=3;"), x -> x.end(4) ? 1 : 0, 1);
        Calls.due("end(0) of none", none().end(0), true);
        StrikeWhatCancels x = told("h".repeat(76)).get();
        x.sign(0);
        Calls.due("end(80) of 80", x.end(80), true);
        Calls.due("signs", x.count(6), 80);
    }

    @Says("its first n signs (n 0)")
    static void promise03None() {
        StrikeWhatCancels x = told("abcd").get();
        Calls.due("end(0)", x.end(0), true);
        Calls.due("signs", x.count(6), 0);
        Calls.due("speech", x.speech(), 0);
    }

    @Says("false if it has not so many")
    static void promise03NotSoMany() {
        Edge.stays("end(6) of five", told("h=3;a"), x -> x.end(6) ? 1 : 0, 0);
        Edge.stays("end(MAX) of five", told("h=3;a"), x -> x.end(Integer.MAX_VALUE) ? 1 : 0, 0);
        Edge.stays("end(1) of none", told(""), x -> x.end(1) ? 1 : 0, 0);
        StrikeWhatCancels x = told("abcd").get();
        x.end(3);
        Calls.due("end(4) behind end(3)", x.end(4), false);
        x.speech();
        Calls.due("end(1) behind speech", x.end(1), false);
    }

    @Says("false if .. n is below 0")
    static void promise03BelowZero() {
        Edge.stays("end(-1)", told("h=3;"), x -> x.end(-1) ? 1 : 0, 0);
        Edge.stays("end(MIN)", told("h=3;"), x -> x.end(Integer.MIN_VALUE) ? 1 : 0, 0);
        Edge.stays("end(-1) of none", told(""), x -> x.end(-1) ? 1 : 0, 0);
    }

    // ---- promise 4

    @Says("THE TEXT tells RULES and WEIGHTS (an empty one: none): how many LINES")
    static void promise04EmptyText() {
        Edge.stays("book of no signs", told(""), x -> x.book(), 0);
        Calls.due("book of no signs", none().book(), 0);
    }

    @Says("behind those there are")
    static void promise04BehindThoseThereAre() {
        StrikeWhatCancels x = Calls.with("ab>;c>b");
        Calls.due("book", Calls.book(x, "h>;gg>h"), 2);
        Calls.due("RULES", Edge.rulesOf(x), "11>0 3>2 8>0 70>8");
    }

    @Says("how many LINES")
    static void promise04HowManyLines() {
        StrikeWhatCancels x = none();
        Calls.due("RULES and WEIGHTS", Calls.book(x, "ab>;a=3;c>b;h=9"), 4);
        Calls.due("RULES", x.count(0), 2);
        Calls.due("WEIGHTS", Edge.weightsOf(x), "31111119");
    }

    @Says("THE TEXT, which a call that reads it empties; MINUTES, the STRIKES to undo, the ROW stay")
    static void promise04NothingElse() {
        Edge.alike("book of e=5", told("e=5"), x -> x.book(), 1, x -> {
            x.end(0);
            x.weigh(4, 5);
        });
    }

    @Says("-1 - p: its end, if it ends too early")
    static void promise04EndsTooEarly() {
        for (String text : new String[] {"a", "abcde", "a=", "a>;", "a=1;", "ab>a;c", "ab>a;c=", "ab>a;c=2;", "ab>a;cc>;"}) {
            wrong(text, text.length());
        }
    }

    @Says("LEFT, >, RIGHT (perhaps none): its end there is not too early")
    static void promise04NoRight() {
        StrikeWhatCancels x = none();
        Calls.due("book of a>", Calls.book(x, "a>"), 1);
        Calls.due("book of b>;c>", Calls.book(x, "b>;c>"), 2);
        Calls.due("RULES", Edge.rulesOf(x), "1>0 2>0 3>0");
    }

    @Says("-1 - p: the sign at p can't stand there (where a LINE begins: no word a .. h)")
    static void promise04WhereALineBegins() {
        for (char c : new char[] {'`', 'i', 'A', ';', '>', '=', '1', ' ', 0, 225, 255}) {
            wrong(c + "b>", 0);
            wrong("b>;" + c, 3);
        }
        StrikeWhatCancels x = none();
        Calls.due("a and h can", Calls.book(x, "a>;h>"), 2);
    }

    @Says("-1 - p: the sign at p can't stand there (behind the words of a LEFT)")
    static void promise04BehindALeft() {
        for (char c : new char[] {'`', 'i', 'A', ';', '1', ' ', 0, 225, 255}) {
            wrong("b" + c + ">", 1);
            wrong("bc" + c + ">", 2);
        }
        wrong("bc=1", 2);
        wrong("=1", 0);
    }

    @Says("-1 - p: the sign at p can't stand there (behind >)")
    static void promise04BehindTheArrow() {
        for (char c : new char[] {'`', 'i', 'A', '>', '=', '1', ' ', 0, 225, 255}) {
            wrong("b>" + c, 2);
            wrong("bb>a" + c, 4);
        }
    }

    @Says("a word, =, WEIGHT (a digit); WEIGHTS of WORDS 1 .. 9")
    static void promise04NoWeight() {
        for (char c : new char[] {'0', '/', ':', 'a', ';', '=', '-', ' ', 0, 177, 255}) {
            wrong("b=" + c, 2);
        }
        wrong("b=1;h=0", 6);
    }

    @Says("a word, =, WEIGHT (a digit): behind it a ; alone")
    static void promise04BehindAWeight() {
        for (char c : new char[] {'0', '1', '>', 'a', '=', ' ', 0, 187, 255}) {
            wrong("b=1" + c, 3);
        }
    }

    @Says("WEIGHTS of WORDS 1 .. 9 (the least, the greatest)")
    static void promise04Weights() {
        StrikeWhatCancels x = none();
        x.weigh(1, 5);
        Calls.due("book", Calls.book(x, "a=9;h=9;b=1"), 3);
        Calls.due("a", x.weigh(0, 1), 9);
        Calls.due("b", x.weigh(1, 1), 1);
        Calls.due("h", x.weigh(7, 6), 9);
        Calls.due("book", Calls.book(x, "h=9;h=1"), 2);
        Calls.due("the later LINE", x.weigh(7, 1), 1);
    }

    @Says("THE TEXT tells .. WEIGHTS (what earlier texts told does not come again)")
    static void promise04EarlierTexts() {
        StrikeWhatCancels x = none();
        Calls.due("book", Calls.book(x, "a=5;h=6;ab>"), 3);
        x.weigh(0, 2);
        x.weigh(7, 3);
        Calls.due("book", Calls.book(x, "b=4;cd>"), 2);
        Calls.due("RULES", Edge.rulesOf(x), "11>0 31>0");
        Calls.due("WEIGHTS", Edge.weightsOf(x), "24111113");
        Calls.due("a text that can't be", Calls.book(x, "a=7;ef>;x"), -9);
        Calls.due("book", Calls.book(x, "c=8"), 1);
        Calls.due("RULES", x.count(0), 2);
        Calls.due("WEIGHTS", Edge.weightsOf(x), "11811111");
    }

    @Says("LINES with ; between")
    static void promise04Between() {
        wrong(";a>", 0);
        wrong("a>;;b>", 3);
        wrong("a=1;;b>", 4);
        wrong(";", 0);
        wrong("a> b>", 2);
        StrikeWhatCancels x = none();
        Calls.due("one ; between", Calls.book(x, "a>;a=1;b>"), 3);
    }

    @Says("a text of at most 76 signs (76 are not too many)")
    static void promise04SeventySix() {
        String text = "ee>d;" + WEIGHTS;
        Calls.due("signs", text.length(), 76);
        StrikeWhatCancels x = none();
        Calls.due("LINES", Calls.book(x, text), 19);
        Calls.due("RULES", Edge.rulesOf(x), "50>4");
    }

    @Says("76, if it has more and the first 76 could .. end")
    static void promise04SeventySixAndMore() {
        String text = "ee>d;" + WEIGHTS;
        for (String more : new String[] {";", "x", "1", ";a>", ";a=1", ";a=", "    "}) {
            wrong(text + more, 76);
        }
    }

    @Says("76, if it has more and the first 76 could go on")
    static void promise04SeventySixCouldGoOn() {
        String[] begun = {"eee>d;" + WEIGHTS.substring(0, 70), "e>d;" + WEIGHTS + ";", "ee>;" + WEIGHTS + ";",
            WEIGHTS + ";eee>", WEIGHTS + ";eeee"};
        for (String text : begun) {
            Calls.due("signs of " + text, text.length() == 75 || text.length() == 76, true);
            String full = text.length() == 75 ? "e" + text : text;
            for (String more : new String[] {"1", ";", "a", "a=1"}) {
                wrong(full + more, 76);
            }
        }
    }

    @Says("76, if .. (not, if one of the first 76 can't stand there)")
    static void promise04WrongAheadOfSeventySix() {
        wrong("ee>d;" + WEIGHTS.substring(0, 70) + "0;", 75);
        wrong("ee>f;" + WEIGHTS.substring(0, 70) + "0;", 75);
        wrong("e>f;" + WEIGHTS + ";;", 3);
        wrong("ee>ee;" + WEIGHTS, 5);
        wrong("x" + "e".repeat(79), 0);
        wrong("e".repeat(80), 5);
    }

    @Says("its end, if it ends too early (76 signs that do)")
    static void promise04SeventySixTooEarly() {
        wrong("ee>;" + WEIGHTS + ";", 76);
    }

    @Says("a LEFT of 1 .. 5 WORDS; a sixth word of a LEFT")
    static void promise04SixthWordOfALeft() {
        StrikeWhatCancels x = none();
        Calls.due("five", Calls.book(x, "hgfed>"), 1);
        Calls.due("LEFT", x.rule(0, 0), Calls.code("hgfed"));
        Calls.due("one", Calls.book(x, "h>"), 1);
        wrong("hgfedc>", 5);
        wrong("hgfedc", 5);
        wrong("b>;hgfedc>", 8);
        wrong("hgfed=", 5);
        wrong(">a", 0);
    }

    @Says("a RIGHT of 0 .. 5; a sixth word of a .. RIGHT")
    static void promise04SixthWordOfARight() {
        StrikeWhatCancels x = none();
        Calls.due("five", Calls.book(x, "bbbbb>ahhhh"), 1);
        Calls.due("RIGHT", x.rule(0, 1), Calls.code("ahhhh"));
        wrong("bbbbb>ahhhhh", 11);
        wrong("bbbbb>ahhhhh;", 11);
        wrong("b>aaaaaa", 7);
    }

    @Says("the > of a RULE for which there is no room (RULES at most 12)")
    static void promise04NoRoom() {
        wrongBehind(TWELVE, "a>", 1);
        wrongBehind(TWELVE, "abcde>", 5);
        wrongBehind(TWELVE, "h=2;ab>a", 6);
        wrongBehind(TWELVE.substring(3), "a>;ab>", 5);
        StrikeWhatCancels x = none();
        Calls.due("thirteen", Calls.book(x, TWELVE + ";a>"), -1 - 37);
        Calls.due("RULES", x.count(0), 0);
    }

    private static void wrongBehind(String rules, String text, int p) {
        Supplier<StrikeWhatCancels> made = () -> {
            StrikeWhatCancels x = Calls.with(rules, "abc");
            Calls.text(x, text);
            return x;
        };
        Edge.alike("book of " + text + " behind " + rules, made, x -> x.book(), -1 - p, x -> x.end(0));
    }

    @Says("0 .. (at most 12)")
    static void promise04TwelveRules() {
        StrikeWhatCancels x = none();
        Calls.due("eleven", Calls.book(x, TWELVE.substring(3)), 11);
        Calls.due("the twelfth", Calls.book(x, "gh>h"), 1);
        Calls.due("RULES", x.count(0), 12);
        Calls.due("LEFT of the last", x.rule(11, 0), Calls.code("gh"));
        Calls.due("twelve at once", Calls.book(none(), TWELVE), 12);
        Calls.due("a WEIGHT needs no room", Calls.book(x, "h=7;g=2"), 2);
        Calls.due("it has come", x.rule(11, 2), 2);
    }

    @Says("a RIGHT that is not AHEAD: the sign behind it")
    static void promise04RightNotAhead() {
        // As many words and no less CODE; more words.
        for (String text : new String[] {"a>a", "a>b", "ab>ab", "ab>ac", "ab>ba", "a>aa", "h>aa", "hhhhh>hhhhh", "aaaaa>aaaab"}) {
            wrong(text, text.length());
            wrong(text + ";b>a", text.length());
            wrong(text + ">", text.length());
        }
    }

    @Says("One SAYING is AHEAD of another one, if it has fewer WORDS, or as many and its CODE is less.")
    static void promise04RightAhead() {
        for (String text : new String[] {"b>a", "ab>aa", "ba>ah", "aa>h", "aa>", "hhhhh>hhhhg", "aaaab>aaaaa", "aaaaa>hhhh"}) {
            StrikeWhatCancels x = none();
            Calls.due("book of " + text, Calls.book(x, text), 1);
            Calls.due("RULES", x.count(0), 1);
        }
    }

    @Says("Nothing of it comes, if a LINE can't.")
    static void promise04NothingOfIt() {
        wrong("e=7;ee>;a=5;b>b", 15);
        wrong("e=7;ee>;a=5;b", 13);
        wrong("a=5;x", 4);
        wrong("ee>;", 4);
    }

    // ---- promise 5

    @Says("THE TEXT is THE SPEECH, and THE MINUTES: how many WORDS")
    static void promise05Speech() {
        StrikeWhatCancels x = told("habcdefg").get();
        Calls.due("speech", x.speech(), 8);
        Calls.due("THE MINUTES", x.minutes(), Calls.code("habcdefg"));
        Calls.due("WORDS of THE SPEECH", x.count(1), 8);
        Calls.due("WORDS of THE MINUTES", x.count(2), 8);
        Calls.due("signs", x.count(6), 0);
        Calls.due("THE SPEECH", x.anew(), Calls.code("habcdefg"));
    }

    @Says("WORDS alone, at most 14")
    static void promise05AtMostFourteen() {
        StrikeWhatCancels x = told("h".repeat(14)).get();
        Calls.due("fourteen", x.speech(), 14);
        Calls.due("THE MINUTES", x.minutes(), Calls.code("h".repeat(14)));
        wrongSpeech("h".repeat(15), 14);
        wrongSpeech("a".repeat(14) + ";", 14);
        wrongSpeech("a".repeat(76), 14);
    }

    @Says("none: none")
    static void promise05NoWords() {
        StrikeWhatCancels x = told("").get();
        Calls.due("speech", x.speech(), 0);
        Calls.due("THE MINUTES", x.minutes(), 0);
        Calls.due("WORDS of THE SPEECH", x.count(1), 0);
        Calls.due("WORDS of THE MINUTES", x.count(2), 0);
        Calls.due("STRIKES to undo", x.count(3), 0);
    }

    @Says("-1 - p: as book() (the sign at p can't stand there)")
    static void promise05WrongSign() {
        for (char c : new char[] {'`', 'i', 'A', ';', '>', '=', '1', ' ', 0, 225, 255}) {
            wrongSpeech("" + c, 0);
            wrongSpeech("abcdefgh" + c + "a", 8);
            wrongSpeech("a".repeat(13) + c, 13);
        }
    }

    @Says("No STRIKE can be undone then.")
    static void promise05NoUndo() {
        StrikeWhatCancels x = told("ba").get();
        Calls.due("STRIKES to undo", x.count(3), 3);
        String row = Edge.rowOf(x);
        Calls.due("speech", x.speech(), 2);
        Calls.due("STRIKES to undo", x.count(3), 0);
        Calls.due("undo", x.undo(), -1);
        Calls.due("THE MINUTES", x.minutes(), Calls.code("ba"));
        Calls.due("the ROW", Edge.rowOf(x), row);
    }

    @Says("-1 - p: .. (the STRIKES to undo stay)")
    static void promise05UndoStays() {
        StrikeWhatCancels x = told("b;a").get();
        long minutes = x.minutes();
        Calls.due("speech", x.speech(), -2);
        Calls.due("STRIKES to undo", x.count(3), 3);
        Calls.due("THE MINUTES", x.minutes(), minutes);
        Calls.due("undo", x.undo(), 2);
    }

    // ---- promise 6

    @Says("The same by a CODE: how many WORDS")
    static void promise06Speak() {
        StrikeWhatCancels x = Edge.busy();
        Calls.due("speak", x.speak(Calls.code("hab")), 3);
        Calls.due("THE MINUTES", x.minutes(), Calls.code("hab"));
        Calls.due("WORDS of THE SPEECH", x.count(1), 3);
        Calls.due("signs stay", x.count(6), 11);
        Calls.due("THE SPEECH", x.anew(), Calls.code("hab"));
    }

    @Says("its WORDS as a number with base 9, a being 1, .., h 8, the first word greatest (0: no WORDS)")
    static void promise06Codes() {
        StrikeWhatCancels x = none();
        Calls.due("no WORDS", x.speak(0), 0);
        Calls.due("a", x.speak(1), 1);
        Calls.due("h", x.speak(8), 1);
        Calls.due("aa", x.speak(10), 2);
        Calls.due("hh", x.speak(80), 2);
        Calls.due("aaa", x.speak(91), 3);
        Calls.speech(x, "hab");
        Calls.due("hab", x.minutes(), 8 * 81 + 9 + 2);
    }

    @Says("A SAYING: 0 .. 14 WORDS (the last CODE, the first one behind it)")
    static void promise06AtMostFourteen() {
        // 9 to the 14th is 22876792454961.
        Calls.due("fourteen", none().speak(22876792454960L), 14);
        Edge.stays("9 to the 14th", x -> x.speak(22876792454961L), -1);
        Edge.stays("fifteen a", x -> x.speak(Calls.code("a".repeat(15))), -1);
        Edge.stays("fifteen h", x -> x.speak(Calls.code("h".repeat(15))), -1);
    }

    @Says("NONE: no SAYING has it. (a 0 among the digits)")
    static void promise06NoughtAmongTheDigits() {
        for (long code : new long[] {9, 18, 72, 81, 82, 89, 90, 810, 819, 22876792454960L - 8, 22876792454960L / 9 * 9}) {
            Edge.stays("speak(" + code + ")", x -> x.speak(code), -1);
        }
    }

    @Says("NONE: no SAYING has it. (below 0, and far above)")
    static void promise06BelowAndAbove() {
        for (long code : new long[] {-1, -9, -10, Long.MIN_VALUE, Long.MIN_VALUE + 1, Long.MAX_VALUE, 1L << 62}) {
            Edge.stays("speak(" + code + ")", x -> x.speak(code), -1);
        }
    }

    @Says("(no STRIKE can be undone then)")
    static void promise06NoUndo() {
        StrikeWhatCancels x = Edge.busy();
        String row = Edge.rowOf(x);
        Calls.due("speak", x.speak(x.minutes()), x.count(2));
        Calls.due("STRIKES to undo", x.count(3), 0);
        Calls.due("undo", x.undo(), -1);
        Calls.due("the ROW", Edge.rowOf(x), row);
    }

    // ---- promise 7

    @Says("Of a RULE, what 0: CODE of its LEFT, 1: of its RIGHT, 2: by how much its WEIGHTS are less behind it.")
    static void promise07Rule() {
        StrikeWhatCancels x = Calls.with("abcab>hhhh;h>;a=2;b=3;c=4;h=9");
        Calls.due("LEFT", x.rule(0, 0), Calls.code("abcab"));
        Calls.due("RIGHT", x.rule(0, 1), Calls.code("hhhh"));
        Calls.due("may be below 0", x.rule(0, 2), 14 - 36);
        Calls.due("no RIGHT", x.rule(1, 1), 0);
        Calls.due("less", x.rule(1, 2), 9);
        x.weigh(7, 1);
        Calls.due("less, with other WEIGHTS", x.rule(0, 2), 14 - 4);
    }

    @Says("NoSuchElementException: none such")
    static void promise07NoneSuch() {
        StrikeWhatCancels x = Calls.with(TWELVE);
        for (int what = 0; what < 3; what++) {
            for (int i : new int[] {-1, 12, 13, Integer.MAX_VALUE, Integer.MIN_VALUE}) {
                Calls.due("rule(" + i + ", " + what + ") throws", Calls.ruleThrows(x, i, what), true);
            }
            Calls.due("rule(0, " + what + ") throws", Calls.ruleThrows(x, 0, what), false);
            Calls.due("rule(11, " + what + ") throws", Calls.ruleThrows(x, 11, what), false);
            Calls.due("rule(0, " + what + ") of none throws", Calls.ruleThrows(none(), 0, what), true);
        }
        x = Calls.with("a>");
        Calls.due("rule(1, 0) of one throws", Calls.ruleThrows(x, 1, 0), true);
    }

    @Says("NoSuchElementException: .. another what")
    static void promise07AnotherWhat() {
        StrikeWhatCancels x = Calls.with("ab>b");
        for (int what : new int[] {-1, 3, Integer.MAX_VALUE, Integer.MIN_VALUE}) {
            Calls.due("rule(0, " + what + ") throws", Calls.ruleThrows(x, 0, what), true);
        }
    }

    @Says("NoSuchElementException (nothing changes)")
    static void promise07NothingChanges() {
        Edge.stays("rule(3, 0) throws", x -> Calls.ruleThrows(x, 3, 0) ? 1 : 0, 1);
        Edge.stays("rule(0, 3) throws", x -> Calls.ruleThrows(x, 0, 3) ? 1 : 0, 1);
        Edge.stays("rule(0, 0)", x -> x.rule(0, 0), Calls.code("ba"));
    }

    // ---- promise 8

    @Says("WEIGHT of a word (0 .. 7) becomes v: what it was. (1 .. 9)")
    static void promise08Weigh() {
        StrikeWhatCancels x = none();
        for (int word = 0; word < 8; word++) {
            Calls.due("was", x.weigh(word, 9), 1);
            Calls.due("was", x.weigh(word, 1), 9);
            Calls.due("was", x.weigh(word, word + 1), 1);
        }
        Calls.due("each its own", Edge.weightsOf(x), "12345678");
    }

    @Says("Refused: others. (a word below 0, above 7)")
    static void promise08AnotherWord() {
        for (int word : new int[] {-1, 8, Integer.MAX_VALUE, Integer.MIN_VALUE}) {
            Edge.stays("weigh(" + word + ", 5)", x -> x.weigh(word, 5), -1);
        }
    }

    @Says("Refused: others. (a WEIGHT below 1, above 9)")
    static void promise08AnotherWeight() {
        for (int v : new int[] {0, -1, 10, Integer.MAX_VALUE, Integer.MIN_VALUE}) {
            Edge.stays("weigh(0, " + v + ")", x -> x.weigh(0, v), -1);
            Edge.stays("weigh(7, " + v + ")", x -> x.weigh(7, v), -1);
        }
    }

    // ---- promise 9

    /** The eight WEIGHTS behind a sheet; its answer is their sum. */
    private static void sheet(int kind, int n, int f, int step, String weights) {
        StrikeWhatCancels x = Edge.busy();
        String what = "sheet(" + kind + ", " + n + ", " + f + ", " + step + ")";
        Calls.due(what, x.sheet(kind, n, f, step), weights.chars().map(c -> c - '0').sum());
        Calls.due("WEIGHTS behind " + what, Edge.weightsOf(x), weights);
    }

    @Says("bytes (kind 0): the lowest bits, with their sign")
    static void promise09Bytes() {
        sheet(0, 1, 127, 0, "91111111");
        sheet(0, 1, 128, 0, "11111111");
        sheet(0, 1, 255, 0, "11111111");
        sheet(0, 1, 256, 0, "11111111");
        sheet(0, 1, 261, 0, "51111111");
        sheet(0, 1, -251, 0, "51111111");
        sheet(0, 1, -128, 0, "11111111");
        sheet(0, 1, -129, 0, "91111111");
        sheet(0, 4, 126, 1, "99111111");
        sheet(0, 8, 2, 256, "22222222");
    }

    @Says("shorts (1): the lowest bits, with their sign")
    static void promise09Shorts() {
        sheet(1, 1, 32767, 0, "91111111");
        sheet(1, 1, 32768, 0, "11111111");
        sheet(1, 1, 65535, 0, "11111111");
        sheet(1, 1, 65536, 0, "11111111");
        sheet(1, 1, 65541, 0, "51111111");
        sheet(1, 1, -65531, 0, "51111111");
        sheet(1, 1, -32768, 0, "11111111");
        sheet(1, 1, -32769, 0, "91111111");
        sheet(1, 1, 261, 0, "91111111");
        sheet(1, 4, 32766, 1, "99111111");
        sheet(1, 8, 3, 65536, "33333333");
    }

    @Says("ints (2): put to 1 .. 9")
    static void promise09Ints() {
        sheet(2, 8, -1, 1, "11123456");
        sheet(2, 8, 5, 1, "56789999");
        sheet(2, 8, 12, -1, "99998765");
        sheet(2, 1, 65541, 0, "91111111");
        sheet(2, 1, Integer.MAX_VALUE, 0, "91111111");
        sheet(2, 1, Integer.MIN_VALUE, 0, "11111111");
    }

    @Says("f, f + step, .. (ints come round)")
    static void promise09EntriesComeRound() {
        sheet(2, 2, Integer.MAX_VALUE, 1, "91111111");
        sheet(2, 3, 5, Integer.MIN_VALUE, "51511111");
        sheet(2, 4, 1, 1 << 30, "19111111");
        sheet(2, 5, 4, 1 << 30, "49114111");
    }

    @Says("n entries (8 of them): the sum of all eight")
    static void promise09EightEntries() {
        sheet(0, 8, 1, 1, "12345678");
        sheet(1, 8, 9, 0, "99999999");
        sheet(2, 8, 8, -1, "87654321");
    }

    @Says("those behind it are 1")
    static void promise09ThoseBehind() {
        sheet(0, 7, 2, 1, "23456781");
        sheet(1, 1, 4, 1, "41111111");
        sheet(2, 0, 4, 1, "11111111");
        sheet(0, 0, 9, 9, "11111111");
    }

    @Says("-2: n below 0 (of kinds 0 .. 2; nothing changes)")
    static void promise09BelowZero() {
        for (int kind = 0; kind < 3; kind++) {
            int k = kind;
            Edge.stays("sheet(" + k + ", -1, 5, 1)", x -> x.sheet(k, -1, 5, 1), -2);
            Edge.stays("sheet(" + k + ", MIN, 5, 1)", x -> x.sheet(k, Integer.MIN_VALUE, 5, 1), -2);
        }
    }

    @Says("-3: missing (all 1).")
    static void promise09Missing() {
        for (int n : new int[] {0, 1, 8, -1, Integer.MIN_VALUE}) {
            Edge.alike("sheet(3, " + n + ", 5, 1)", Edge::busy, x -> x.sheet(3, n, 5, 1), -3, Edge::weightsOf);
        }
    }

    @Says("NONE: another kind")
    static void promise09AnotherKind() {
        for (int kind : new int[] {-1, 4, Integer.MAX_VALUE, Integer.MIN_VALUE}) {
            Edge.stays("sheet(" + kind + ", 3, 5, 1)", x -> x.sheet(kind, 3, 5, 1), -1);
        }
    }

    @Says("NONE: .. n above 8")
    static void promise09AboveEight() {
        for (int kind = 0; kind < 3; kind++) {
            int k = kind;
            Edge.stays("sheet(" + k + ", 9, 5, 1)", x -> x.sheet(k, 9, 5, 1), -1);
            Edge.stays("sheet(" + k + ", MAX, 5, 1)", x -> x.sheet(k, Integer.MAX_VALUE, 5, 1), -1);
        }
    }

    @Says("NONE: another kind, n above 8 (these first)")
    static void promise09TheseFirst() {
        Edge.stays("another kind, n below 0", x -> x.sheet(4, -1, 5, 1), -1);
        Edge.stays("another kind, n below 0", x -> x.sheet(-1, -1, 5, 1), -1);
        Edge.stays("a missing one, n above 8", x -> x.sheet(3, 9, 5, 1), -1);
        Edge.stays("another kind, n above 8", x -> x.sheet(4, 9, 5, 1), -1);
    }

    @Says("THE ROW stays (none is told)")
    static void promise09NothingElse() {
        Edge.alike("sheet(0, 0, 5, 1)", Edge::busy, x -> x.sheet(0, 0, 5, 1), 8, Edge::weightsOf);
    }

    // ---- promise 10

    @Says("WIDE becomes v: what it was. (1 .. 8)")
    static void promise10Wide() {
        StrikeWhatCancels x = none();
        int was = 3;
        for (int v = 1; v <= 8; v++) {
            Calls.due("wide(" + v + ")", x.wide(v), was);
            Calls.due("WIDE", x.count(4), v);
            Calls.due("SAYINGS of one word", x.still(1), v);
            was = v;
        }
    }

    @Says("Refused: others.")
    static void promise10Others() {
        for (int v : new int[] {0, 9, -1, Integer.MAX_VALUE, Integer.MIN_VALUE}) {
            Edge.stays("wide(" + v + ")", x -> x.wide(v), -1);
        }
    }

    @Says("WIDE 1 .. 8 of them are used in questions about all speeches (in others all WORDS are)")
    static void promise10OfOtherQuestions() {
        StrikeWhatCancels x = Calls.with("h>g");
        x.wide(1);
        Calls.due("a speech beyond WIDE", x.speak(8), 1);
        Calls.due("net", x.net(), 2);
        Calls.due("way", x.way(7), 1);
        Calls.due("clerks", x.clerks(), 1);
        Calls.row(x, 7, 7, 7, 1, 1, 1);
        Calls.due("strike", x.strike(0), 0);
        Calls.due("between", x.between(8, 7, 1), 1);
        Calls.due("a goal beyond WIDE", x.come(0, 1, 7), 0);
        Calls.due("still", x.still(1), 1);
    }

    // ---- promise 11

    @Says("Two RULES change their places: true. (the first, the last)")
    static void promise11Swap() {
        StrikeWhatCancels x = Calls.with("a>;a>;a>;a>;a>;a>;a>;a>;a>;a>;bb>b");
        Calls.book(x, "cc>b");
        Calls.due("swap(0, 11)", x.swap(0, 11), true);
        Calls.due("RULE 0", x.rule(0, 0), Calls.code("cc"));
        Calls.due("RULE 0", x.rule(0, 1), 2);
        Calls.due("RULE 10", x.rule(10, 0), Calls.code("bb"));
        Calls.due("RULE 11", x.rule(11, 0), 1);
        Calls.due("RULE 11", x.rule(11, 1), 0);
        Calls.due("swap(11, 10)", x.swap(11, 10), true);
        Calls.due("RULE 11", x.rule(11, 0), Calls.code("bb"));
    }

    @Says("Two RULES change their places (nothing else changes)")
    static void promise11NothingElse() {
        StrikeWhatCancels x = Edge.busy();
        String row = Edge.rowOf(x);
        long minutes = x.minutes();
        Calls.due("swap(0, 2)", x.swap(0, 2), true);
        Calls.due("RULES", Edge.rulesOf(x), Calls.code("db") + ">3 " + Calls.code("cc") + ">0 " + Calls.code("ba") + ">11");
        Calls.due("THE MINUTES", x.minutes(), minutes);
        Calls.due("STRIKES to undo", x.count(3), 3);
        Calls.due("the ROW", Edge.rowOf(x), row);
        Calls.due("undo", x.undo(), 2);
    }

    @Says("Refused: none such")
    static void promise11NoneSuch() {
        for (int i : new int[] {-1, 3, 12, Integer.MAX_VALUE, Integer.MIN_VALUE}) {
            Edge.stays("swap(0, " + i + ")", x -> x.swap(0, i) ? 1 : 0, 0);
            Edge.stays("swap(" + i + ", 2)", x -> x.swap(i, 2) ? 1 : 0, 0);
        }
        Edge.stays("swap(0, 1) of none", BookEdgeTest::none, x -> x.swap(0, 1) ? 1 : 0, 0);
        Edge.stays("swap(0, 1) of one", () -> Calls.with("ab>"), x -> x.swap(0, 1) ? 1 : 0, 0);
    }

    @Says("Refused: .. one and the same")
    static void promise11OneAndTheSame() {
        for (int i = 0; i < 4; i++) {
            int k = i;
            Edge.stays("swap(" + k + ", " + k + ")", x -> x.swap(k, k) ? 1 : 0, 0);
        }
        Edge.stays("swap(-1, -1)", x -> x.swap(-1, -1) ? 1 : 0, 0);
    }
}
