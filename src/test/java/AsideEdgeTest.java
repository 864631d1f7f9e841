import java.util.Arrays;
import java.util.function.Supplier;

/** The boundaries of promises 29 to 31. */
public final class AsideEdgeTest {
    /** Of two words each: three RULES are added to each pair, xx>x, y>, x> (x the one that stays). */
    private static final String PAIRS = "ab>;ba>a;cd>;dc>c;ef>;fe>e";
    private static final long[] NINE = added("aa>a b> a> cc>c d> c> ee>e f> e>");
    private static final long[] TWELVE = added("aa>a b> a> cc>c d> c> ee>e f> e> gg>g h> g>");
    /** ghgghgg comes to hgg and ghg, ghgg to none and gghg, ghgghg to hg and gh; there is more. */
    private static final long[] NOT_ENOUGH = added("aa>a b> a> cc>c d> c> ee>e f> e> hgg>ghg gghg> hg>gh");

    public static void main(String[] args) {
        Edge.all(AsideEdgeTest.class);
    }

    private static long code(String words) {
        return Calls.code(words);
    }

    private static long[] added(String rules) {
        String[] each = rules.split(" ");
        long[] row = new long[2 * each.length];
        for (int k = 0; k < each.length; k++) {
            int at = each[k].indexOf('>');
            row[2 * k] = Calls.code(each[k].substring(0, at));
            row[2 * k + 1] = Calls.code(each[k].substring(at + 1));
        }
        return row;
    }

    private static long[] first(long[] row, int rules) {
        return Arrays.copyOf(row, 2 * rules);
    }

    private static Supplier<StrikeWhatCancels> made(String rules) {
        return () -> {
            StrikeWhatCancels x = Calls.with(rules, "abcdefgh");
            x.can();
            return x;
        };
    }

    private static Supplier<StrikeWhatCancels> none() {
        return () -> {
            StrikeWhatCancels x = new StrikeWhatCancels();
            x.speak(1);
            x.run(0, 0);
            return x;
        };
    }

    // ---- promise 29

    @Says("at most n (0 .. 12) (0)")
    static void promise29None() {
        Edge.asks("nothing to add", made("ab>;ba>"), x -> x.complete(0), 0);
        Edge.asks("no RULES", none(), x -> x.complete(0), 0);
        Edge.asks("no RULES", none(), x -> x.complete(12), 0);
        Edge.asks("one to add", made("aa>b"), x -> x.complete(0), -2);
    }

    @Says("at most n (0 .. 12) (as many as are needed, one less, one more)")
    static void promise29AtMost() {
        long[] three = first(added("aa>a b> a>"), 3);
        Supplier<StrikeWhatCancels> made = made("ab>;ba>a");
        Edge.asks("complete(4)", made, x -> x.complete(4), 3, three);
        Edge.asks("complete(3)", made, x -> x.complete(3), 3, three);
        Edge.asks("complete(2)", made, x -> x.complete(2), -2, first(three, 2));
        Edge.asks("complete(1)", made, x -> x.complete(1), -2, first(three, 1));
        Edge.asks("complete(0)", made, x -> x.complete(0), -2);
    }

    @Says("at most n (0 .. 12) (12)")
    static void promise29Twelve() {
        Supplier<StrikeWhatCancels> made = made(PAIRS + ";gh>;hg>g");
        Edge.asks("complete(12)", made, x -> x.complete(12), 12, TWELVE);
        Edge.asks("complete(11)", made, x -> x.complete(11), -2, first(TWELVE, 11));
        Edge.asks("complete(9)", made(PAIRS), x -> x.complete(9), 9, NINE);
    }

    @Says("RULES are added aside, at most n (to twelve RULES, which is all that can be told)")
    static void promise29TwelveToTwelve() {
        Supplier<StrikeWhatCancels> made = made(PAIRS + ";gh>;hg>g;gh>;gh>;gh>;gh>");
        Calls.due("RULES", made.get().count(0), 12);
        Edge.asks("complete(12)", made, x -> x.complete(12), 12, TWELVE);
        Edge.asks("same", made, x -> x.same(code("hgfedcba"), 7), 1, 0, 0);
    }

    @Says("what CLERK 0 leaves of both SAYINGS is unlike")
    static void promise29ByClerk0() {
        // ddddd comes to aaadd, from the left badd, and to ddaaa, from the left ddba.
        Edge.asks("complete(1)", made("ddd>aaa;aa>b"), x -> x.complete(1), -2, added("ddba>badd"));
    }

    @Says("-2: not done with n (thirteen would be needed)")
    static void promise29Thirteen() {
        Edge.asks("complete(12)", made(PAIRS + ";ghgg>"), x -> x.complete(12), -2, NOT_ENOUGH);
    }

    @Says("-2: .. or a LEFT would have more than 5 WORDS (it is not added) (5)")
    static void promise29FiveWords() {
        // aabaaabaa comes to babaa and aabab, aabaabaa to bbaa and aabb.
        Edge.asks("complete(12)", made("aabaa>b"), x -> x.complete(12), 2, added("babaa>aabab bbaa>aabb"));
    }

    @Says("-2: .. or a LEFT would have more than 5 WORDS (it is not added) (6)")
    static void promise29SixWords() {
        // aabaaabaa comes to bbabaa and aababb.
        Edge.asks("complete(12)", made("aabaa>bb"), x -> x.complete(12), -2);
        Edge.asks("complete(0)", made("aabaa>bb"), x -> x.complete(0), -2);
        // ba and ab first; then cabbcabbc comes to ddabbc and cabbdd.
        Edge.asks("one ahead of it", made("aa>b;cabbc>dd"), x -> x.complete(12), -2, added("ba>ab"));
        Edge.asks("one ahead of it", made("aa>b;cabbc>dd"), x -> x.complete(1), -2, added("ba>ab"));
        Edge.asks("one ahead of it", made("aa>b;cabbc>dd"), x -> x.complete(0), -2);
    }

    @Says("the SAYING AHEAD of the other is its RIGHT (that STRUCK by i, by j; fewer WORDS, a less CODE)")
    static void promise29WhichIsAhead() {
        Edge.asks("by i", made("gh>a;gh>b"), x -> x.complete(12), 1, added("b>a"));
        Edge.asks("by j", made("gh>b;gh>a"), x -> x.complete(12), 1, added("b>a"));
        Edge.asks("fewer WORDS", made("gh>ab;gh>c"), x -> x.complete(12), 1, added("ab>c"));
        Edge.asks("no WORDS", made("gh>;gh>c"), x -> x.complete(12), 1, added("c>"));
    }

    @Says("OVERLAPS (by all RULES and those added, in order)")
    static void promise29ByThoseAdded() {
        // cb comes to d, or to ca by the RULE that is added first.
        Edge.asks("complete(12)", made("gh>b;gh>a;cb>d"), x -> x.complete(12), 2, added("b>a ca>d"));
    }

    @Says("The RULES themselves stay as they are (added aside)")
    static void promise29Aside() {
        StrikeWhatCancels x = Calls.with("aa>b", "ba");
        Calls.due("complete", x.complete(12), 1);
        Calls.due("RULES", x.count(0), 1);
        Calls.due("rule(1, 0) throws", Calls.ruleThrows(x, 1, 0), true);
        Calls.due("can", x.can(), 0);
        Calls.due("overlaps", x.overlaps(), 1);
        Calls.row(x, 1, 0);
    }

    @Says("NONE: others.")
    static void promise29Others() {
        for (int n : new int[] {-1, 13, Integer.MAX_VALUE, Integer.MIN_VALUE}) {
            Edge.stays("complete(" + n + ")", x -> x.complete(n), -1);
            Edge.stays("complete(" + n + "), no RULES", none(), x -> x.complete(n), -1);
        }
    }

    // ---- promise 30

    @Says("Whether two SAYINGS come to one: 1; the ROW: CODES of what is left of both.")
    static void promise30Same() {
        Edge.asks("same", made("aa>b"), x -> x.same(code("ba"), code("ab")), 1, code("ab"), code("ab"));
        Edge.asks("itself", made("aa>b"), x -> x.same(code("ba"), code("ba")), 1, code("ab"), code("ab"));
        Edge.asks("no words", none(), x -> x.same(0, 0), 1, 0, 0);
        Edge.asks("the longest", made("aa>b"), x -> x.same(code("a".repeat(14)), code("b".repeat(7))), 1,
            code("b".repeat(7)), code("b".repeat(7)));
    }

    @Says("0 (for sure not, if it is done)")
    static void promise30ForSureNot() {
        Edge.asks("same", made("aa>b"), x -> x.same(code("ba"), code("bb")), 0, code("ab"), code("bb"));
        Edge.asks("no RULES", none(), x -> x.same(1, 2), 0, 1, 2);
        Edge.asks("with twelve", made(PAIRS + ";gh>;hg>g"), x -> x.same(code("abcdefgh"), 0), 1, 0, 0);
    }

    @Says("-2: not, but it is not done; the ROW (for -2, too)")
    static void promise30NotDone() {
        Edge.asks("six WORDS", made("aabaa>bb"), x -> x.same(1, 2), -2, 1, 2);
        Edge.asks("thirteen", made(PAIRS + ";ghgg>"), x -> x.same(7, 8), -2, 7, 8);
    }

    @Says("1 (though it is not done)")
    static void promise30OneThoughNotDone() {
        Edge.asks("six WORDS", made("aabaa>bb"), x -> x.same(code("aabaab"), code("bbb")), 1, code("bbb"), code("bbb"));
        // By hg>gh, the last of twelve.
        Edge.asks("thirteen", made(PAIRS + ";ghgg>"), x -> x.same(code("hg"), code("gh")), 1, code("gh"), code("gh"));
    }

    @Says("come to one by RULES and those added (CLERK 0)")
    static void promise30ByClerk0() {
        // From the right it would come to aabbb.
        long fromTheLeft = code("bbbaa");
        Edge.asks("same", made("aabaa>bb"), x -> x.same(code("aabaabaa"), code("aabaabaa")), 1, fromTheLeft, fromTheLeft);
        Edge.asks("same", made("aabaa>bb"), x -> x.same(code("aabaabaa"), code("aabbb")), -2, fromTheLeft, code("aabbb"));
    }

    @Says("by RULES and those added by complete() of 12 (CLERK 0) (whatever was asked before)")
    static void promise30OfTwelve() {
        StrikeWhatCancels x = made("ab>;ba>a").get();
        Calls.due("complete(0)", x.complete(0), -2);
        Calls.due("same", x.same(1, 2), 1);
        Calls.row(x, 0, 0);
        Calls.due("complete(1)", x.complete(1), -2);
        Calls.row(x, code("aa"), 1);
        Calls.due("same", x.same(code("aaa"), 0), 1);
    }

    @Says("NONE: no SAYING has one.")
    static void promise30NoSaying() {
        for (long code : new long[] {-1, 9, 90, 22876792454961L, Long.MIN_VALUE, Long.MAX_VALUE}) {
            Edge.stays("same(" + code + ", 1)", x -> x.same(code, 1), -1);
            Edge.stays("same(1, " + code + ")", x -> x.same(1, code), -1);
            Edge.stays("same(" + code + ", 1), not done", made("aabaa>bb"), x -> x.same(code, 1), -1);
            Edge.stays("same(" + code + ", " + code + ")", x -> x.same(code, code), -1);
        }
    }

    // ---- promise 31

    @Says("The shortest way: how many; the ROW: the SAYINGS it comes to (none from one to itself)")
    static void promise31ToItself() {
        Edge.asks("between", made("b>a"), x -> x.between(code("ab"), code("ab"), 2), 0);
        Edge.asks("no words", none(), x -> x.between(0, 0, 0), 0);
        Edge.asks("no RULES", none(), x -> x.between(8, 8, 1), 0);
    }

    @Says("STRIKES and STRIKES turned round (RIGHT there, LEFT put for it)")
    static void promise31TurnedRound() {
        Edge.asks("a STRIKE", made("ab>c"), x -> x.between(code("ab"), 3, 2), 1, 3);
        Edge.asks("turned round", made("ab>c"), x -> x.between(3, code("ab"), 2), 1, code("ab"));
        Edge.asks("no RIGHT there, at 0", made("ab>"), x -> x.between(3, code("abc"), 3), 1, code("abc"));
        Edge.asks("no RIGHT there, at the end", made("ab>"), x -> x.between(3, code("cab"), 3), 1, code("cab"));
        Edge.asks("no RIGHT there, no words", made("ab>"), x -> x.between(0, code("ab"), 2), 1, code("ab"));
    }

    @Says("over SAYINGS of at most 'most' WORDS (as many as are needed, one less)")
    static void promise31AtMost() {
        // From a to b by cc alone.
        Supplier<StrikeWhatCancels> made = made("cc>a;cc>b");
        Edge.asks("two WORDS", made, x -> x.between(1, 2, 2), 2, code("cc"), 2);
        Edge.stays("one WORD", made, x -> x.between(1, 2, 1), -2);
        Edge.asks("eight WORDS", made("cc>"), x -> x.between(code("aaaaaa"), code("aaaaaacc"), 8), 1, code("aaaaaacc"));
        Edge.stays("seven WORDS", made("cc>"), x -> x.between(code("aaaaaa"), code("aaaaaab"), 7), -2);
    }

    @Says("'most' WORDS (0 .. 8) (0, 8)")
    static void promise31Most() {
        Edge.asks("0", made("a>"), x -> x.between(0, 0, 0), 0);
        Edge.asks("8", made("b>a"), x -> x.between(code("abababab"), code("abababaa"), 8), 1, code("abababaa"));
        for (int most : new int[] {-1, 9, Integer.MAX_VALUE, Integer.MIN_VALUE}) {
            Edge.stays("between(0, 0, " + most + ")", x -> x.between(0, 0, most), -1);
            Edge.stays("between(1, 2, " + most + ")", x -> x.between(1, 2, most), -1);
        }
    }

    @Says("both are such")
    static void promise31BothAreSuch() {
        for (int most = 0; most < 8; most++) {
            int m = most;
            long more = code("a".repeat(most + 1));
            Edge.stays("one of more than " + m, x -> x.between(more, 0, m), -1);
            Edge.stays("the other of more than " + m, x -> x.between(0, more, m), -1);
            Edge.stays("both of more than " + m, x -> x.between(more, more, m), -1);
        }
        Edge.stays("nine WORDS", x -> x.between(code("aaaaaaaaa"), code("aaaaaaaaa"), 8), -1);
    }

    @Says("CODES (at most the first 8) (8)")
    static void promise31Eight() {
        Edge.asks("seven", made("b>a"), x -> x.between(code("bbbbbbb"), code("aaaaaaa"), 8), 7, code("abbbbbb"), code("aabbbbb"),
            code("aaabbbb"), code("aaaabbb"), code("aaaaabb"), code("aaaaaab"), code("aaaaaaa"));
        Edge.asks("eight", made("b>a"), x -> x.between(code("bbbbbbbb"), code("aaaaaaaa"), 8), 8, code("abbbbbbb"),
            code("aabbbbbb"), code("aaabbbbb"), code("aaaabbbb"), code("aaaaabbb"), code("aaaaaabb"), code("aaaaaaab"),
            code("aaaaaaaa"));
    }

    @Says("CODES (at most the first 8) (9)")
    static void promise31Nine() {
        Edge.asks("eight", made("a>"), x -> x.between(code("aaaaaaaa"), 0, 8), 8, code("aaaaaaa"), code("aaaaaa"), code("aaaaa"),
            code("aaaa"), code("aaa"), code("aa"), 1, 0);
        Edge.asks("nine", made("a>;b>"), x -> x.between(code("aaaaaaaa"), 2, 8), 9, code("aaaaaaa"), code("aaaaaa"),
            code("aaaaa"), code("aaaa"), code("aaa"), code("aa"), 1, 0);
    }

    @Says("of as short ones the least row")
    static void promise31TheLeastRow() {
        Edge.asks("the less CODE first", made("d>c"), x -> x.between(code("cd"), code("dc"), 2), 2, code("cc"), code("dc"));
        // To cc, or ab, which is AHEAD; both lead to gh.
        Edge.asks("the less of two turned round", made("gh>ab;gh>cc;ab>e;cc>e"), x -> x.between(5, code("gh"), 2), 2,
            code("ab"), code("gh"));
        Edge.asks("the one AHEAD first", made("gh>f;gh>ab;hg>f;hg>ab"), x -> x.between(code("gh"), code("hg"), 2), 2, 6,
            code("hg"));
    }

    @Says("-2: none")
    static void promise31None() {
        Edge.stays("between", made("b>a"), x -> x.between(1, 3, 8), -2);
        Edge.stays("no RULES", none(), x -> x.between(1, 2, 8), -2);
        Edge.stays("no words", made("b>a"), x -> x.between(0, 1, 8), -2);
    }

    /** From aaaaf to 625 * 3 of its kind, and, as aaaff can come to it, to 125 * 9 others: 3000 in all. */
    private static final String KINDS = "b>a;c>b;d>c;e>d;g>f;h>g;aaaff>aaaaf";

    @Says("-3: .. more than 3000 SAYINGS are so near or nearer (3000, where it is none of them)")
    static void promise31ThreeThousand() {
        Edge.stays("between", made(KINDS), x -> x.between(code("aaaaf"), 1, 5), -2);
        Edge.stays("between", made(KINDS), x -> x.between(code("eeehh"), code("aaaaa"), 5), -2);
    }

    @Says("-3: .. more than 3000 SAYINGS are so near or nearer (3001, where it is none of them)")
    static void promise31MoreThanThreeThousand() {
        // aaaaf can come to none, and nothing else can.
        Edge.stays("between", made(KINDS + ";aaaaf>"), x -> x.between(code("aaaaf"), 1, 5), -3);
        Edge.stays("between", made(KINDS + ";aaaaf>"), x -> x.between(code("eeehh"), code("aaaaa"), 5), -3);
    }

    @Says("-3: without it being among them")
    static void promise31AmongThem() {
        // aaaaf has to come to aaaff first, then each word for itself.
        StrikeWhatCancels x = made(KINDS + ";aaaaf>").get();
        Calls.due("the farthest but one of 3001", x.between(code("aaaaf"), code("eeehh"), 5), 1 + 3 * 4 + 2 * 2);
        Calls.due("the first of the row", x.row(0), code("aaaff"));
        Calls.due("the farthest of 3001", x.between(code("aaaaf"), code("eeeeh"), 5), 4 * 4 + 2);
        // None: 3280 of at most seven words are so near as seven words are.
        x = made("a>;b>;c>").get();
        Calls.due("seven words", x.between(0, code("ccccccc"), 8), 7);
        Edge.stays("eight words", made("a>;b>;c>"), y -> y.between(0, code("cccccccc"), 8), -3);
        Edge.stays("eight words, next to the first of seven", made("a>;b>;c>"), y -> y.between(0, code("aaaaaaaa"), 8), -3);
        Edge.stays("a word that is none of them", made("a>;b>;c>"), y -> y.between(0, 4, 7), -3);
        Edge.stays("1093 are not so many", made("a>;b>;c>"), y -> y.between(0, 4, 6), -2);
    }

    @Says("-3: without it being among them (the 3001st alone, next to the 3000th)")
    static void promise31TheLastOfAll() {
        // eeeeh is the farthest of 3000, and alone can come to none.
        Edge.stays("one that is not there", made(KINDS + ";eeeeh>"), x -> x.between(code("aaaaf"), 1, 5), -3);
        StrikeWhatCancels x = made(KINDS + ";eeeeh>").get();
        Calls.due("the last of all", x.between(code("aaaaf"), 0, 5), 4 * 4 + 2 + 1);
        Calls.due("numbers of the ROW", x.count(5), 8);
    }

    @Says("NONE: others. (no SAYING has one)")
    static void promise31NoSaying() {
        for (long code : new long[] {-1, 9, 90, 22876792454961L, Long.MIN_VALUE, Long.MAX_VALUE}) {
            Edge.stays("between(" + code + ", 1, 8)", x -> x.between(code, 1, 8), -1);
            Edge.stays("between(1, " + code + ", 8)", x -> x.between(1, code, 8), -1);
            Edge.stays("between(" + code + ", " + code + ", 8)", x -> x.between(code, code, 8), -1);
        }
    }

    @Says("NONE goes ahead of -2, -3")
    static void promise31NoneGoesAhead() {
        Edge.stays("ahead of -3", made("a>;b>;c>"), x -> x.between(9, code("cccccccc"), 8), -1);
        Edge.stays("ahead of -3", made("a>;b>;c>"), x -> x.between(0, code("ccccccccc"), 8), -1);
        Edge.stays("ahead of -2", none(), x -> x.between(1, code("aa"), 1), -1);
    }
}
