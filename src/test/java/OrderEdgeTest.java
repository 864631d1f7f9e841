import java.util.function.Supplier;

/** Which answer goes ahead of which: NONE ahead of -2, -3, and -3 where it hangs on a search whether it is -2. */
public final class OrderEdgeTest {
    private static final long[] NO_SAYING = {-1, 9, 90, 22876792454961L, Long.MIN_VALUE, Long.MAX_VALUE};
    private static final String MANY = "hhhhh";

    public static void main(String[] args) {
        Edge.all(OrderEdgeTest.class);
    }

    /** THE MINUTES lead to 8 to the 5th SAYINGS; something is in the ROW. */
    private static Supplier<StrikeWhatCancels> many() {
        return () -> {
            StrikeWhatCancels x = Calls.with(Edge.SEVEN + ";h>g", MANY);
            x.can();
            return x;
        };
    }

    private static Supplier<StrikeWhatCancels> wide() {
        return () -> {
            StrikeWhatCancels x = many().get();
            x.wide(8);
            return x;
        };
    }

    /** Each OVERLAP comes to a search of too many: h stands in itself, put for what leads to them. */
    private static Supplier<StrikeWhatCancels> manyOverlaps() {
        return () -> {
            StrikeWhatCancels x = Calls.with(Edge.SEVEN + ";haaaa>ggggg;haaaa>fffff");
            x.can();
            return x;
        };
    }

    @Says("NONE goes ahead of -3 (done, way, ways)")
    static void promise19To21() {
        Edge.stays("done(-1)", many(), x -> x.done(-1), -1);
        for (long code : NO_SAYING) {
            Edge.stays("way(" + code + ")", many(), x -> x.way(code), -1);
            Edge.stays("ways(" + code + ")", many(), x -> x.ways(code), -1);
        }
    }

    @Says("-3 (where nobody knows whether it would be -2)")
    static void promise19To21TooMany() {
        Edge.stays("net", many(), x -> x.net(), -3);
        Edge.stays("done of the greatest number", many(), x -> x.done(Integer.MAX_VALUE), -3);
        Edge.stays("way to more WORDS", many(), x -> x.way(Calls.code("aaaaaa")), -3);
        Edge.stays("ways to more WORDS", many(), x -> x.ways(Calls.code("aaaaaa")), -3);
    }

    @Says("NONE goes ahead of -3 (meet)")
    static void promise23() {
        for (long code : NO_SAYING) {
            Edge.stays("meet(" + code + ", many)", many(), x -> x.meet(code, Calls.code(MANY)), -1);
            Edge.stays("meet(many, " + code + ")", many(), x -> x.meet(Calls.code(MANY), code), -1);
        }
        Edge.stays("many and none", many(), x -> x.meet(Calls.code(MANY), 0), -3);
        Edge.stays("none and many", many(), x -> x.meet(0, Calls.code(MANY)), -3);
        Edge.stays("many and the same", many(), x -> x.meet(Calls.code(MANY), Calls.code(MANY)), -3);
    }

    @Says("Of OVERLAP k: -2: there are not so many; -3; NONE: k below 0 (which asks for no search)")
    static void promise25() {
        Edge.stays("below 0", manyOverlaps(), x -> x.overlap(-1), -1);
        Edge.stays("the first", manyOverlaps(), x -> x.overlap(0), -3);
        Edge.stays("the last", manyOverlaps(), x -> x.overlap(1), -3);
        Edge.stays("one more", manyOverlaps(), x -> x.overlap(2), -2);
        Edge.stays("overlaps", manyOverlaps(), x -> x.overlaps(), -3);
        Edge.stays("idle", manyOverlaps(), x -> x.idle(), -3);
    }

    @Says("-2: they are DONE; NONE: another CLERK")
    static void promise12() {
        Edge.stays("DONE", StrikeWhatCancels::new, x -> x.strike(3), -2);
        Edge.stays("another CLERK", StrikeWhatCancels::new, x -> x.strike(4), -1);
        Edge.stays("another CLERK", StrikeWhatCancels::new, x -> x.strike(-1), -1);
    }

    @Says("NONE: another kind, n above 8 (these first)")
    static void promise09() {
        Supplier<StrikeWhatCancels> made = Edge::busy;
        Edge.stays("another kind, n below 0", made, x -> x.sheet(4, -1, 1, 1), -1);
        Edge.stays("another kind, n below 0", made, x -> x.sheet(-1, -1, 1, 1), -1);
        Edge.stays("missing, n above 8", made, x -> x.sheet(3, 9, 1, 1), -1);
        Edge.stays("n below 0", made, x -> x.sheet(2, -1, 1, 1), -2);
        Edge.alike("missing, n below 0", made, x -> x.sheet(3, -1, 1, 1), -3, x -> x.sheet(0, 0, 0, 0));
    }

    @Says("NONE: others. (complete, same: ahead of -2)")
    static void promise29And30() {
        Supplier<StrikeWhatCancels> made = () -> Calls.with("aabaa>bb", "ab");
        Edge.stays("complete(-1)", made, x -> x.complete(-1), -1);
        Edge.stays("complete(13)", made, x -> x.complete(13), -1);
        for (long code : NO_SAYING) {
            Edge.stays("same", made, x -> x.same(code, 1), -1);
            Edge.stays("same", made, x -> x.same(1, code), -1);
        }
    }

    @Says("-2: none; -3: ..; NONE: others. (between)")
    static void promise31() {
        Supplier<StrikeWhatCancels> made = wide();
        Edge.stays("too many", made, x -> x.between(Calls.code(MANY), 1, 5), -3);
        Edge.stays("too many, but one is no SAYING", made, x -> x.between(Calls.code(MANY), 9, 5), -1);
        Edge.stays("too many, but most is 9", made, x -> x.between(Calls.code(MANY), 1, 9), -1);
        Edge.stays("too many, but one is too long", made, x -> x.between(Calls.code(MANY), 1, 4), -1);
    }

    @Says("-3, NONE as come() (another CLERK, n, no SAYING ahead of too many)")
    static void promise32To37() {
        Supplier<StrikeWhatCancels> made = wide();
        for (int clerk : new int[] {-1, 3, Integer.MAX_VALUE, Integer.MIN_VALUE}) {
            Edge.stays("come", made, x -> x.come(clerk, 14, 1), -1);
            Edge.stays("longest", made, x -> x.longest(clerk, 14), -1);
            Edge.stays("sorts", made, x -> x.sorts(clerk, 14), -1);
            Edge.stays("shortest", made, x -> x.shortest(clerk, Calls.code("aaaa")), -1);
        }
        for (long code : NO_SAYING) {
            Edge.stays("come", made, x -> x.come(0, 14, code), -1);
            Edge.stays("shortest", made, x -> x.shortest(0, code), -1);
        }
        Edge.stays("come", made, x -> x.come(0, 14, 1), -3);
        Edge.stays("come", made, x -> x.come(0, 15, 1), -1);
        Edge.stays("shortest", made, x -> x.shortest(0, Calls.code("aaaa")), -2);
        Edge.stays("quarrels", made, x -> x.quarrels(14), -3);
        Edge.stays("quarrels", made, x -> x.quarrels(15), -1);
    }
}
