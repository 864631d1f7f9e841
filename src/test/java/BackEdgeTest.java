import java.util.function.Supplier;
import java.util.function.ToLongFunction;

/** The boundaries of promises 32 to 37. */
public final class BackEdgeTest {
    /** Of each WIDE the most WORDS of which there are no more than 4096 SAYINGS. */
    private static final int[] MOST = {0, 14, 12, 7, 6, 5, 4, 4, 4};

    public static void main(String[] args) {
        Edge.all(BackEdgeTest.class);
    }

    private static long code(String words) {
        return Calls.code(words);
    }

    private static Supplier<StrikeWhatCancels> made(String rules, int wide) {
        return () -> {
            StrikeWhatCancels x = Calls.with(rules, "abcdefgh");
            x.can();
            x.wide(wide);
            return x;
        };
    }

    private static Supplier<StrikeWhatCancels> none(int wide) {
        return () -> {
            StrikeWhatCancels x = new StrikeWhatCancels();
            x.speak(1);
            x.run(0, 0);
            x.wide(wide);
            return x;
        };
    }

    /** A call with n WORDS is answered up to the most of each WIDE, and is -3 from there on up to 14. */
    private static void atMost4096(String what, Asked call) {
        for (int wide = 1; wide <= 8; wide++) {
            int most = MOST[wide];
            StrikeWhatCancels x = none(wide).get();
            Calls.due(what + " of the most WORDS, WIDE " + wide, call.of(x, most) >= 0, true);
            for (int n = most + 1; n <= 14; n = n == most + 1 && n < 14 ? 14 : n + 1) {
                int more = n;
                Edge.stays(what + " of " + n + " WORDS, WIDE " + wide, none(wide), y -> call.of(y, more), -3);
            }
        }
    }

    /** A call with n WORDS is refused below 0 and above 14, whatever WIDE is. */
    private static void refused(String what, Asked call) {
        for (int n : new int[] {-1, 15, 20, Integer.MAX_VALUE, Integer.MIN_VALUE}) {
            Edge.stays(what + " of " + n + " WORDS", x -> call.of(x, n), -1);
            Edge.stays(what + " of " + n + " WORDS, WIDE 1", none(1), x -> call.of(x, n), -1);
            Edge.stays(what + " of " + n + " WORDS, WIDE 8", none(8), x -> call.of(x, n), -1);
        }
    }

    /** Another CLERK is refused, and goes ahead of -3. */
    private static void refusedClerk(String what, ToLongFunction<StrikeWhatCancels> few, ToLongFunction<StrikeWhatCancels> many) {
        Edge.stays(what + " by another CLERK", none(3), few, -1);
        Edge.stays(what + " by another CLERK of too many", none(8), many, -1);
    }

    /** What a call answers about SAYINGS of n WORDS. */
    private interface Asked {
        long of(StrikeWhatCancels x, int n);
    }

    // ---- promise 32

    @Says("How many SAYINGS of n WORDS within WIDE a CLERK (0 .. 2) brings to a SAYING; the ROW: the first of them (CODE")
    static void promise32Come() {
        // ab and bb (by ab) come to none from the left; bb from the right comes to aa.
        Edge.asks("CLERK 0", made("ab>;b>a", 2), x -> x.come(0, 2, 0), 2, code("ab"));
        Edge.asks("CLERK 1", made("ab>;b>a", 2), x -> x.come(1, 2, code("aa")), 4, code("aa"));
        Edge.asks("CLERK 2", made("b>a;ab>", 2), x -> x.come(2, 2, code("aa")), 4, code("aa"));
        Edge.asks("CLERK 2", made("ab>;b>a", 2), x -> x.come(2, 2, 0), 2, code("ab"));
    }

    @Says("the ROW: .. none for 0")
    static void promise32NoneForNought() {
        Edge.asks("come", made("b>a", 2), x -> x.come(0, 2, code("ab")), 0);
        Edge.asks("come", made("b>a", 2), x -> x.come(0, 2, 0), 0);
        Edge.asks("come, a goal of more WORDS", made("b>a", 2), x -> x.come(0, 2, code("aaa")), 0);
        Edge.asks("come, a goal beyond WIDE", made("b>a", 2), x -> x.come(0, 1, 3), 0);
    }

    @Says("SAYINGS of n WORDS (0 .. 14) (0)")
    static void promise32NoWords() {
        for (int clerk = 0; clerk < 3; clerk++) {
            int c = clerk;
            Edge.asks("come to none", made("b>a", 2), x -> x.come(c, 0, 0), 1, 0);
            Edge.asks("come to a", made("b>a", 2), x -> x.come(c, 0, 1), 0);
        }
    }

    @Says("SAYINGS of n WORDS (0 .. 14) (14)")
    static void promise32Fourteen() {
        long all = code("a".repeat(14));
        for (int clerk = 0; clerk < 3; clerk++) {
            int c = clerk;
            Edge.asks("come to itself", none(1), x -> x.come(c, 14, all), 1, all);
            Edge.asks("come to none", made("aa>", 1), x -> x.come(c, 14, 0), 1, all);
        }
    }

    @Says("-3: there are more than 4096 such SAYINGS")
    static void promise32TooMany() {
        for (int clerk = 0; clerk < 3; clerk++) {
            int c = clerk;
            atMost4096("come", (x, n) -> x.come(c, n, 1));
        }
        // 8 times 8 times 8 times 8, and 2 to the 12th.
        Edge.asks("4096", made("a>", 8), x -> x.come(0, 4, 0), 1, code("aaaa"));
        Edge.asks("4096", made("a>;b>", 2), x -> x.come(0, 12, 0), 4096, code("a".repeat(12)));
        Edge.asks("4096", made("a>;b>;c>;d>", 4), x -> x.come(1, 6, 0), 4096, code("a".repeat(6)));
    }

    @Says("NONE: others. (n below 0, above 14)")
    static void promise32OtherN() {
        refused("come", (x, n) -> x.come(0, n, 1));
    }

    @Says("NONE: others. (another CLERK)")
    static void promise32OtherClerk() {
        for (int clerk : new int[] {-1, 3, Integer.MAX_VALUE, Integer.MIN_VALUE}) {
            refusedClerk("come", x -> x.come(clerk, 2, 1), x -> x.come(clerk, 14, 1));
        }
    }

    @Says("NONE: others. (no SAYING has the CODE)")
    static void promise32NoSaying() {
        for (long code : new long[] {-1, 9, 90, 22876792454961L, Long.MIN_VALUE, Long.MAX_VALUE}) {
            Edge.stays("come(0, 2, " + code + ")", none(3), x -> x.come(0, 2, code), -1);
            Edge.stays("come(0, 14, " + code + ")", none(8), x -> x.come(0, 14, code), -1);
        }
    }

    @Says("within WIDE (1, 8)")
    static void promise32WithinWide() {
        String all = "a>;b>;c>;d>;e>;f>;g>;h>";
        for (int wide = 1; wide <= 8; wide++) {
            Edge.asks("come, WIDE " + wide, made(all, wide), x -> x.come(0, 2, 0), wide * wide, code("aa"));
        }
    }

    @Says("brings to a SAYING (what is between may be beyond WIDE)")
    static void promise32ThroughOthers() {
        // bb comes to ah, ag, ac, aa.
        Edge.asks("come", made("bb>ah;h>g;g>c;c>a", 2), x -> x.come(0, 2, code("aa")), 2, code("aa"));
    }

    // ---- promise 33

    @Says("The fewest WORDS, more than a SAYING told by its CODE has, of a SAYING a CLERK brings to it: how many; the ROW")
    static void promise33Shortest() {
        Edge.asks("CLERK 0", made("ab>;b>a", 2), x -> x.shortest(0, 0), 2, code("ab"));
        Edge.asks("CLERK 0", made("ab>;b>a", 2), x -> x.shortest(0, 1), 3, code("aab"));
        // From the right b becomes a ahead of all others.
        Edge.stays("CLERK 1", made("ab>;b>a", 2), x -> x.shortest(1, 0), -2);
        Edge.asks("CLERK 2", made("b>a;aaa>", 2), x -> x.shortest(2, 0), 3, code("aaa"));
        Edge.asks("the first such one", made("bb>;ba>", 2), x -> x.shortest(0, 0), 2, code("ba"));
    }

    @Says("more than a SAYING told by its CODE has (not as many)")
    static void promise33MoreThanItHas() {
        // b comes to a, too, but has no more WORDS.
        Edge.asks("shortest", made("b>a;aa>a", 2), x -> x.shortest(0, 1), 2, code("aa"));
        Edge.stays("shortest", made("b>a", 2), x -> x.shortest(0, 1), -2);
    }

    @Says("-2: none of at most 14 WORDS (14)")
    static void promise33Fourteen() {
        Edge.asks("fourteen", made("aa>b", 1), x -> x.shortest(0, code("bbbbbbb")), 14, code("a".repeat(14)));
        Edge.stays("sixteen would be", made("aa>b", 1), x -> x.shortest(0, code("bbbbbbbb")), -2);
        Edge.stays("of fourteen WORDS", made("aa>b", 1), x -> x.shortest(0, code("b".repeat(14))), -2);
        Edge.stays("of thirteen WORDS", none(1), x -> x.shortest(0, code("a".repeat(13))), -2);
        Edge.asks("fourteen, one more than thirteen", made("aa>a", 1), x -> x.shortest(1, 1), 2, code("aa"));
    }

    @Says("as long as there are no more than 4096 SAYINGS of so many")
    static void promise33NoMoreThan4096() {
        Edge.asks("4 WORDS of 8", made("hhhh>aaa;aaaaa>", 8), x -> x.shortest(0, code("aaa")), 4, code("hhhh"));
        Edge.stays("5 WORDS of 8", made("hhhh>aaa;aaaaa>", 8), x -> x.shortest(0, 0), -2);
        Edge.asks("5 WORDS of 5", made("hhhh>aaa;aaaaa>", 5), x -> x.shortest(0, 0), 5, code("aaaaa"));
        Edge.stays("of 4 WORDS of 8", made("aa>a", 8), x -> x.shortest(0, code("abab")), -2);
        Edge.asks("of 3 WORDS of 8", made("aa>a", 8), x -> x.shortest(0, code("aba")), 4, code("aaba"));
        Edge.stays("of 14 WORDS of 8", made("aa>a", 8), x -> x.shortest(0, code("a".repeat(14))), -2);
    }

    @Says("as long as there are no more than 4096 SAYINGS (each WIDE)")
    static void promise33EachWide() {
        // b .. b comes of aab .. b alone, and of its like, which have two WORDS more.
        for (int wide = 2; wide <= 8; wide++) {
            int most = MOST[wide];
            String before = "b".repeat(most - 1);
            Edge.asks("as many as can be, WIDE " + wide, made("aa>", wide), x -> x.shortest(0, code(before.substring(1))), most,
                code("aa" + before.substring(1)));
            Edge.stays("one more, WIDE " + wide, made("aa>", wide), x -> x.shortest(0, code(before)), -2);
        }
    }

    @Says("NONE: others. (another CLERK)")
    static void promise33OtherClerk() {
        for (int clerk : new int[] {-1, 3, Integer.MAX_VALUE, Integer.MIN_VALUE}) {
            Edge.stays("shortest(" + clerk + ", 1)", none(3), x -> x.shortest(clerk, 1), -1);
            Edge.stays("shortest(" + clerk + ", fourteen)", none(8), x -> x.shortest(clerk, code("a".repeat(14))), -1);
        }
    }

    @Says("NONE: others. (no SAYING has the CODE)")
    static void promise33NoSaying() {
        for (long code : new long[] {-1, 9, 90, 22876792454961L, Long.MIN_VALUE, Long.MAX_VALUE}) {
            Edge.stays("shortest(0, " + code + ")", none(3), x -> x.shortest(0, code), -1);
        }
    }

    // ---- promise 34

    @Says("The most STRIKES a CLERK makes in a SAYING of n WORDS; the ROW: the first such SAYING, on how many it makes none.")
    static void promise34Longest() {
        // aab 1, aba 1, abb 2, baa 1, bab 2, bba 2, bbb 3 STRIKES.
        for (int clerk = 0; clerk < 3; clerk++) {
            int c = clerk;
            Edge.asks("CLERK " + c, made("b>a", 2), x -> x.longest(c, 3), 3, code("bbb"), 1);
        }
        Edge.asks("the first of two", made("aa>;bb>", 2), x -> x.longest(0, 2), 1, code("aa"), 2);
    }

    @Says("The most STRIKES (none)")
    static void promise34None() {
        Edge.asks("no STRIKES", made("c>", 2), x -> x.longest(0, 3), 0, code("aaa"), 8);
        Edge.asks("no RULES", none(8), x -> x.longest(2, 4), 0, code("aaaa"), 4096);
    }

    @Says("a SAYING of n WORDS (0, 14)")
    static void promise34NoWords() {
        for (int clerk = 0; clerk < 3; clerk++) {
            int c = clerk;
            Edge.asks("no WORDS", made("a>", 2), x -> x.longest(c, 0), 0, 0, 1);
            Edge.asks("fourteen", made("aa>a", 1), x -> x.longest(c, 14), 13, code("a".repeat(14)), 0);
        }
    }

    @Says("-3 .. as come().")
    static void promise34TooMany() {
        for (int clerk = 0; clerk < 3; clerk++) {
            int c = clerk;
            atMost4096("longest", (x, n) -> x.longest(c, n));
        }
    }

    @Says("NONE as come(). (n, CLERK)")
    static void promise34Others() {
        refused("longest", (x, n) -> x.longest(0, n));
        for (int clerk : new int[] {-1, 3, Integer.MAX_VALUE, Integer.MIN_VALUE}) {
            refusedClerk("longest", x -> x.longest(clerk, 2), x -> x.longest(clerk, 14));
        }
    }

    // ---- promise 35

    @Says("How many SAYINGS of n WORDS (0 .. 20) within WIDE are DONE. (0, 20)")
    static void promise35Still() {
        Edge.stays("no WORDS", made("a>", 3), x -> x.still(0), 1);
        Edge.stays("no WORDS, no RULES", none(8), x -> x.still(0), 1);
        Edge.stays("fifteen", none(2), x -> x.still(15), 32768);
        // 1, 2, 3, 5, 8, .. of 0, 1, 2, .. WORDS.
        Edge.stays("twenty", made("aa>", 2), x -> x.still(20), 17711);
        Edge.stays("twenty, one word", none(1), x -> x.still(20), 1);
        Edge.stays("twenty, all WORDS", none(8), x -> x.still(20), 1L << 60);
        Edge.stays("twenty, none", made("a>;b>;c>;d>;e>;f>;g>;h>", 8), x -> x.still(20), 0);
    }

    @Says("within WIDE (1, 8)")
    static void promise35WithinWide() {
        for (int wide = 1; wide <= 8; wide++) {
            Edge.stays("still(1), WIDE " + wide, made("h>", wide), x -> x.still(1), wide < 8 ? wide : 7);
            Edge.stays("still(2), WIDE " + wide, made("aa>", wide), x -> x.still(2), wide * wide - 1);
        }
    }

    @Says("How many .. are DONE (LEFTS of as many WORDS, of one more)")
    static void promise35LongLefts() {
        Edge.stays("four", made("abcde>", 8), x -> x.still(4), 4096);
        Edge.stays("five", made("abcde>", 8), x -> x.still(5), 32767);
        // aaba, aabb, aaab, baab are not.
        Edge.stays("a LEFT behind its own beginning", made("aab>", 2), x -> x.still(4), 16 - 4);
        // Of all 32768 the LEFTS themselves are not.
        Edge.stays("twelve LEFTS of five", () -> {
            StrikeWhatCancels x = Calls.with("abaaa>;bcaaa>;cdaaa>;deaaa>;efaaa>;fgaaa>", "a");
            Calls.book(x, "ghaaa>;haaaa>;acaaa>;bdaaa>;ceaaa>;dfaaa>");
            x.wide(8);
            return x;
        }, x -> x.still(5), 32768 - 12);
        Edge.stays("twelve LEFTS", made("h>;g>;f>;e>;d>;ca>;cb>;cc>;ba>;bb>;bc>;aa>", 8), x -> x.still(2), 2);
    }

    @Says("NONE: another n.")
    static void promise35AnotherN() {
        for (int n : new int[] {-1, 21, Integer.MAX_VALUE, Integer.MIN_VALUE}) {
            Edge.stays("still(" + n + ")", x -> x.still(n), -1);
            Edge.stays("still(" + n + "), WIDE 1", none(1), x -> x.still(n), -1);
        }
    }

    // ---- promise 36

    @Says("To how many unlike DONE SAYINGS a CLERK brings all SAYINGS of n WORDS; the ROW: the one to which the most come, how many.")
    static void promise36Sorts() {
        Edge.asks("CLERK 0", made("ab>;b>a;c>b", 2), x -> x.sorts(0, 2), 2, 0, 2);
        Edge.asks("CLERK 1", made("ab>;b>a", 2), x -> x.sorts(1, 2), 1, code("aa"), 4);
        Edge.asks("CLERK 2", made("ba>;b>", 2), x -> x.sorts(2, 2), 3, 0, 2);
    }

    @Says("the one to which the most come (AHEAD of all such)")
    static void promise36AheadOfAllSuch() {
        Edge.asks("each to itself", none(8), x -> x.sorts(2, 4), 4096, code("aaaa"), 1);
        // aa, ba come to aa; ab, bb to ab.
        Edge.asks("a less CODE", made("ba>aa;bb>ab", 2), x -> x.sorts(0, 2), 2, code("aa"), 2);
        // ab, ba come to h, aa, bb to none.
        Edge.asks("fewer WORDS", made("ab>h;ba>h;aa>;bb>", 2), x -> x.sorts(0, 2), 2, 0, 2);
    }

    @Says("all SAYINGS of n WORDS (0, 14)")
    static void promise36NoWords() {
        for (int clerk = 0; clerk < 3; clerk++) {
            int c = clerk;
            Edge.asks("no WORDS", made("a>", 3), x -> x.sorts(c, 0), 1, 0, 1);
            Edge.asks("fourteen", made("aa>a", 1), x -> x.sorts(c, 14), 1, 1, 1);
        }
        Edge.asks("all 4096 to one", made("a>;b>", 2), x -> x.sorts(0, 12), 1, 0, 4096);
    }

    @Says("-3 .. as come().")
    static void promise36TooMany() {
        for (int clerk = 0; clerk < 3; clerk++) {
            int c = clerk;
            atMost4096("sorts", (x, n) -> x.sorts(c, n));
        }
    }

    @Says("NONE as come(). (n, CLERK)")
    static void promise36Others() {
        refused("sorts", (x, n) -> x.sorts(0, n));
        for (int clerk : new int[] {-1, 3, Integer.MAX_VALUE, Integer.MIN_VALUE}) {
            refusedClerk("sorts", x -> x.sorts(clerk, 2), x -> x.sorts(clerk, 14));
        }
    }

    // ---- promise 37

    @Says("How many SAYINGS of n WORDS within WIDE the CLERKS 0 and 1 leave unlike; the ROW: the first of them (CODE")
    static void promise37Quarrels() {
        // aaa comes to ba from the left, to ab from the right.
        Edge.asks("one", made("aa>b", 1), x -> x.quarrels(3), 1, code("aaa"));
        Edge.asks("two", made("ab>;b>a", 2), x -> x.quarrels(2), 2, code("ab"));
        Edge.asks("thirteen", made("aa>b", 1), x -> x.quarrels(13), 1, code("a".repeat(13)));
        // bbb, too.
        Edge.asks("the first of two", made("aa>b;bb>a", 2), x -> x.quarrels(3), 2, code("aaa"));
    }

    @Says("the ROW: .. none for 0")
    static void promise37NoneForNought() {
        Edge.asks("none", made("b>a", 2), x -> x.quarrels(3), 0);
        Edge.asks("no WORDS", made("aa>b", 2), x -> x.quarrels(0), 0);
        Edge.asks("no RULES", none(8), x -> x.quarrels(4), 0);
        Edge.asks("fourteen", made("aa>", 1), x -> x.quarrels(14), 0);
    }

    @Says("SAYINGS of n WORDS (asked behind those of more)")
    static void promise37BehindMore() {
        StrikeWhatCancels x = made("aa>b", 1).get();
        Calls.due("three", x.quarrels(3), 1);
        Calls.due("two", x.quarrels(2), 0);
        Calls.row(x);
        Calls.due("come, two", x.come(0, 2, code("ba")), 0);
        Calls.due("longest, two", x.longest(0, 2), 1);
        Calls.row(x, code("aa"), 0);
        Calls.due("sorts, two", x.sorts(0, 2), 1);
        Calls.row(x, 2, 1);
    }

    @Says("-3 .. as come().")
    static void promise37TooMany() {
        atMost4096("quarrels", (x, n) -> x.quarrels(n));
    }

    @Says("NONE as come().")
    static void promise37Others() {
        refused("quarrels", (x, n) -> x.quarrels(n));
    }
}
