import java.util.NoSuchElementException;

/**
 * Calls with any arguments in any state: none throws but row and rule, and these alone what the document
 * says; two objects that are called alike answer alike.
 */
public final class RoughTest {
    private static final int[] EDGES = {Integer.MIN_VALUE, Integer.MAX_VALUE, -1, 0, 1, 2, 3, 8, 9, 12, 13, 14, 15, 20, 21,
        64, 76, 77, 80, 255, 256, 500, 501, 0x613E623B, 0x623E613B, 0x62613E61, 0x623D393B, 0x68683E61};
    private static long drawn = 1234567890123L;

    private static int draw(int n) {
        drawn ^= drawn << 13;
        drawn ^= drawn >>> 7;
        drawn ^= drawn << 17;
        return (int) Long.remainderUnsigned(drawn, n);
    }

    private static int any() {
        return draw(5) == 0 ? (int) drawn : draw(2) == 0 ? EDGES[draw(EDGES.length)] : draw(18) - 2;
    }

    private static long anyCode() {
        if (draw(5) == 0) {
            return draw(2) == 0 ? drawn : draw(2) == 0 ? Long.MIN_VALUE : Long.MAX_VALUE;
        }
        long c = 0;
        for (int k = draw(15); k > 0; k--) {
            c = c * 9 + 1 + draw(draw(3) == 0 ? 8 : 2);
        }
        return c;
    }

    private static long call(StrikeWhatCancels x, int which, int[] a, long c, long d) {
        switch (which) {
            case 0: return x.sign(a[0]);
            case 1: return x.end(a[0]) ? 1 : 0;
            case 2: return x.book();
            case 3: return x.speech();
            case 4: return x.speak(c);
            case 5: return rule(x, a[0], a[1]);
            case 6: return x.weigh(a[0], a[1]);
            case 7: return x.sheet(a[0], a[1], a[2], a[3]);
            case 8: return x.wide(a[0]);
            case 9: return x.swap(a[0], a[1]) ? 1 : 0;
            case 10: return x.strike(a[0]);
            case 11: return x.run(a[0], a[1]);
            case 12: return x.undo();
            case 13: return x.anew();
            case 14: return x.can();
            case 15: return x.judge(a[0], a[1], a[2]);
            case 16: return x.net();
            case 17: return x.done(a[0]);
            case 18: return x.way(c);
            case 19: return x.ways(c);
            case 20: return x.clerks();
            case 21: return x.meet(c, d);
            default: return callMore(x, which, a, c, d);
        }
    }

    private static long callMore(StrikeWhatCancels x, int which, int[] a, long c, long d) {
        switch (which) {
            case 22: return x.overlaps();
            case 23: return x.overlap(a[0]);
            case 24: return x.idle();
            case 25: return x.lessens();
            case 26: return x.weights();
            case 27: return x.complete(a[0]);
            case 28: return x.same(c, d);
            case 29: return x.between(c, d, a[0]);
            case 30: return x.come(a[0], a[1], c);
            case 31: return x.shortest(a[0], c);
            case 32: return x.longest(a[0], a[1]);
            case 33: return x.still(a[0]);
            case 34: return x.sorts(a[0], a[1]);
            case 35: return x.quarrels(a[0]);
            case 36: return x.seed(a[0]);
            case 37: return x.keep(a[0]) ? 1 : 0;
            case 38: return x.again(a[0]) ? 1 : 0;
            case 39: return x.count(a[0]);
            case 40: return x.minutes();
            default: return row(x, a[0]);
        }
    }

    private static long rule(StrikeWhatCancels x, int i, int what) {
        boolean is = i >= 0 && i < x.count(0) && what >= 0 && what < 3;
        try {
            long answer = x.rule(i, what);
            return is ? answer : wrong("rule(" + i + ", " + what + ") answered");
        } catch (NoSuchElementException e) {
            return is ? wrong("rule(" + i + ", " + what + ") threw") : -9;
        }
    }

    private static long row(StrikeWhatCancels x, int i) {
        boolean is = i >= 0 && i < x.count(5);
        try {
            long answer = x.row(i);
            return is ? answer : wrong("row(" + i + ") answered");
        } catch (NoSuchElementException e) {
            return is ? wrong("row(" + i + ") threw") : -9;
        }
    }

    private static long wrong(String what) {
        System.out.println(what);
        System.exit(1);
        return 0;
    }

    public static void main(String[] args) {
        int runs = args.length > 0 ? Integer.parseInt(args[0]) : 500;
        for (int run = 0; run < runs; run++) {
            StrikeWhatCancels x = new StrikeWhatCancels();
            StrikeWhatCancels y = new StrikeWhatCancels();
            for (int n = 0; n < 512; n++) {
                int which = draw(6) == 0 ? draw(5) : draw(42);
                int[] a = {any(), any(), any(), any()};
                long c = anyCode();
                long d = anyCode();
                if (call(x, which, a, c, d) != call(y, which, a, c, d) || x.count(5) != y.count(5)) {
                    wrong("call " + which + " answers otherwise the second time");
                }
            }
        }
        System.out.println("nothing throws that may not");
    }
}
