import java.math.BigInteger;

/** Answers as large as twelve RULES and fourteen WORDS let them be. */
public final class LargeEdgeTest {
    private static final long LAST = 22876792454960L;
    private static final String FOURTEEN = "h".repeat(14);

    public static void main(String[] args) {
        Edge.all(LargeEdgeTest.class);
    }

    private static long code(String words) {
        return Calls.code(words);
    }

    /** A RULE told again and again. */
    private static StrikeWhatCancels many(String rule, int n, String words) {
        StrikeWhatCancels x = new StrikeWhatCancels();
        for (int k = 0; k < n; k++) {
            Calls.due("book", Calls.book(x, rule), 1);
        }
        Calls.due("speech", Calls.speech(x, words), words.length());
        return x;
    }

    /** WORDS that are all struck by any of some like RULES: the place and the RULE are free each time. */
    private static BigInteger waysOf(int rules, int words) {
        BigInteger ways = BigInteger.ONE;
        for (int k = 1; k <= words; k++) {
            ways = ways.multiply(BigInteger.valueOf((long) rules * k));
        }
        return ways;
    }

    @Says("the first word greatest (14 times h)")
    static void term1TheGreatestCode() {
        Calls.due("9 to the 14th, less 1", code(FOURTEEN), LAST);
        StrikeWhatCancels x = Calls.with("hhhhh>hhhhg;g>");
        Calls.due("speak", x.speak(LAST), 14);
        Calls.due("minutes", x.minutes(), LAST);
        Calls.due("judge", x.judge(0, 0, 0), -2);
        Calls.row(x, LAST);
        Calls.due("run(0, 0)", x.run(0, 0), 0);
        Calls.row(x, LAST, 0, 0);
        Calls.due("strike(1)", x.strike(1), 0);
        Calls.row(x, 9, LAST - 1);
        Calls.due("anew", x.anew(), LAST);
        Calls.due("way", x.way(LAST - 1), 1);
        Calls.row(x, 0, 9);
        Calls.due("CODE of the LEFT", x.rule(0, 0), 9 * 9 * 9 * 9 * 9 - 1);
        Calls.due("CODE of its RIGHT", x.rule(0, 1), 9 * 9 * 9 * 9 * 9 - 2);
    }

    @Says("the first word greatest (14 times h, that nothing strikes)")
    static void term1TheGreatestCodeStays() {
        StrikeWhatCancels x = Calls.with("b>a", FOURTEEN);
        Calls.due("done(0)", x.done(0), LAST);
        Calls.due("clerks", x.clerks(), 1);
        Calls.row(x, LAST, LAST, LAST, 0, 0, 0);
        Calls.due("meet", x.meet(LAST, LAST), 1);
        Calls.row(x, LAST);
        Calls.due("same", x.same(LAST, LAST), 1);
        Calls.row(x, LAST, LAST);
        Calls.due("ways", x.ways(LAST), 1);
        Calls.due("one more is none", x.speak(LAST + 1), -1);
    }

    @Says("How many unlike ways: fourteen WORDS by three RULES")
    static void promise21Fourteen() {
        StrikeWhatCancels x = many("a>", 3, "a".repeat(14));
        long ways = waysOf(3, 14).longValueExact();
        Calls.due("3 to the 14th times 14 times 13 times ..", ways, 416971064282572800L);
        Calls.due("ways", x.ways(0), ways);
        Calls.row(x, ways);
        Calls.due("net", x.net(), 15);
        Calls.row(x, 1, 14, 14);
    }

    @Says("How many unlike ways: ten WORDS by twelve RULES")
    static void promise21Twelve() {
        StrikeWhatCancels x = many("a>", 12, "a".repeat(10));
        long ways = waysOf(12, 10).longValueExact();
        Calls.due("ways", x.ways(0), ways);
        Calls.row(x, ways);
        Calls.due("can", x.can(), 120);
        Calls.row(x, 10, 10, 10, 10, 10, 10, 10, 10, 10, 10, 10, 10);
    }

    @Says("How many unlike ways: more than a long holds come round, as Java counts")
    static void promise21MoreThanALong() {
        StrikeWhatCancels x = many("a>", 12, "a".repeat(14));
        long ways = waysOf(12, 14).longValue();
        Calls.due("ways", x.ways(0), ways);
        Calls.row(x, ways);
        Calls.due("to one that is left", x.ways(1), waysOf(12, 14).divide(BigInteger.valueOf(12)).longValue());
    }

    @Says("How many STRIKES can be made: 12 RULES at 14 places; STRIKE number k by a DRAW of 168")
    static void promise16TwelveAtFourteen() {
        StrikeWhatCancels x = many("a>", 12, "a".repeat(14));
        Calls.due("can", x.can(), 168);
        // R becomes 1103527590, by 65536 it is 16838; 16838 % 168 is 38: the fourth place, RULE 2.
        Calls.due("by chance", x.strike(3), 2);
        Calls.row(x, 3, code("a".repeat(13)));
    }

    @Says("the most, the fewest STRIKES till one is DONE; the fewest STRIKES by which they come to a SAYING (1860)")
    static void promise18ManyStrikes() {
        // Base 6, g for 6: from ggggh to aaaah, all 7 times 7 times 7 times 7 on the way; no STRIKE can be spared.
        StrikeWhatCancels x = Calls.with("ch>bh;dh>ch;eh>dh;fh>eh;gh>fh;bh>ah;ba>ag;ca>bg;da>cg;ea>dg;fa>eg;ga>fg", "ggggh");
        Calls.due("net", x.net(), 2401);
        Calls.row(x, 1, 1860, 1860);
        Calls.due("way", x.way(code("aaaah")), 1860);
        Calls.row(x, 4, 3, 3, 3, 2, 3, 1, 3, 0, 3, 5, 3, 11, 2, 4, 3);
        Calls.due("done(0)", x.done(0), code("aaaah"));
        Calls.due("500 at most", x.run(2, 500), 500);
        Calls.due("and so on", x.run(0, 500) + x.run(1, 500) + x.run(3, 500), 1360);
        Calls.due("THE MINUTES", x.minutes(), code("aaaah"));
        Calls.due("to undo", x.count(3), 64);
    }

    @Says("STRIKES of three; the most STRIKES (more than an int holds: in the ROW as they are, as an int they come round)")
    static void promise34MoreThanAnInt() {
        // Struck one by one by another program, too.
        StrikeWhatCancels x = Calls.with("hagh>h;ca>bh;da>ch;ea>dh;fa>eh;ga>fh;ha>gh;agg>;ba>aa;gga>bfb;h>a;aa>h", "a".repeat(14));
        x.wide(1);
        Calls.due("clerks", x.clerks(), 2);
        Calls.row(x, code("ggggggggggbfb"), 1, 1, 15, 26, 6269133122L);
        Calls.due("longest of CLERK 1", x.longest(1, 14), 26);
        Calls.due("longest of CLERK 2", x.longest(2, 14), (int) 6269133122L);
        Calls.row(x, code("a".repeat(14)), 0);
    }

    @Says("How many SAYINGS of 20 WORDS are DONE: 8 to the 20th")
    static void promise35Twenty() {
        StrikeWhatCancels x = new StrikeWhatCancels();
        x.wide(8);
        Calls.due("still(20)", x.still(20), 1L << 60);
        Calls.book(x, "hhhhh>");
        BigInteger[] ends = {BigInteger.ONE, BigInteger.ZERO, BigInteger.ZERO, BigInteger.ZERO, BigInteger.ZERO};
        for (int n = 0; n < 20; n++) {
            BigInteger all = BigInteger.ZERO;
            for (BigInteger e : ends) {
                all = all.add(e);
            }
            ends = new BigInteger[] {all.multiply(BigInteger.valueOf(7)), ends[0], ends[1], ends[2], ends[3]};
        }
        long sum = 0;
        for (BigInteger e : ends) {
            sum += e.longValueExact();
        }
        Calls.due("still(20) without five h", x.still(20), sum);
    }

    @Says("OVERLAPS: as many as there can be, which all MEET")
    static void promise24AsManyAsCanBe() {
        // 144 times four of joined ones, 132 times one within the other.
        StrikeWhatCancels x = many("aaaaa>", 12, "a");
        Calls.due("overlaps", x.overlaps(), 144 * 4 + 132);
        Calls.row(x, 0, -1);
        Calls.due("the last", x.overlap(144 * 4 + 132 - 1), 1);
        Calls.row(x, 11, 11, 4, code("aaaaaa"), 1, 1);
        Calls.due("one more", x.overlap(144 * 4 + 132), -2);
        Calls.due("idle", x.idle(), (1 << 12) - 1);
        Calls.due("complete(0)", x.complete(0), 0);
    }

    @Says("n is 10 and that place (the last place of five WORDS)")
    static void promise24TheLastPlace() {
        StrikeWhatCancels x = Calls.with("gggga>;a>");
        Calls.due("overlaps", x.overlaps(), 1);
        Calls.due("overlap(0)", x.overlap(0), 0);
        Calls.row(x, 0, 1, 14, code("gggga"), 0, code("gggg"));
    }

    @Says("the SAYING of both joined (nine WORDS)")
    static void promise24NineWords() {
        StrikeWhatCancels x = Calls.with("abcde>;efgha>eeee");
        Calls.due("overlaps", x.overlaps(), 2);
        Calls.due("overlap(0)", x.overlap(0), 0);
        Calls.row(x, 0, 1, 1, code("abcdefgha"), code("fgha"), code("abcdeeee"));
        Calls.due("overlap(1)", x.overlap(1), 0);
        Calls.row(x, 1, 0, 1, code("efghabcde"), code("eeeebcde"), code("efgh"));
    }
}
