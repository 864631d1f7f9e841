import java.util.ArrayList;
import java.util.List;
import java.util.NoSuchElementException;

/** Long runs of drawn calls, each answered by the class and by Plain; all answers and rows are alike. */
public final class PlainTest {
    private static long drawn = 88172645463325252L;
    private static int wrong = 0;
    private static final int[] FOR_LEVEL = {0, 0, 0, 9, 9, 10, 11, 11, 14, 15, 16, 18};

    private static int draw(int n) {
        drawn ^= drawn << 13;
        drawn ^= drawn >>> 7;
        drawn ^= drawn << 17;
        return (int) Long.remainderUnsigned(drawn, n);
    }

    private final StrikeWhatCancels x = new StrikeWhatCancels();
    private final Plain y = new Plain();
    private final List<String> calls = new ArrayList<>();
    private final int letters;
    private final int longest;
    /** Whether the rules keep the number of words mostly: then much comes of a speech, and slowly. */
    private final boolean level;

    private PlainTest(int letters, int longest, boolean level) {
        this.letters = letters;
        this.longest = longest;
        this.level = level;
    }

    private void due(String call, long got, long want) {
        calls.add(call + " -> " + got);
        if (want == Plain.UNKNOWN) {
            y.row = new ArrayList<>();
            for (int k = 0; k < x.count(5); k++) {
                y.row.add(x.row(k));
            }
            return;
        }
        boolean same = got == want && x.count(5) == y.row.size();
        for (int k = 0; same && k < y.row.size(); k++) {
            same = x.row(k) == y.row.get(k);
        }
        for (int what = 0; same && what < 7; what++) {
            same = x.count(what) == y.count(what);
        }
        same = same && x.minutes() == y.minutes();
        if (!same) {
            wrong++;
            StringBuilder row = new StringBuilder();
            for (int k = 0; k < x.count(5); k++) {
                row.append(' ').append(x.row(k));
            }
            System.out.println(String.join("\n", calls));
            System.out.println("  row" + row + "; due is " + want + ", row " + y.row
                + "; rules " + y.left + " " + y.right + ", minutes " + y.minutes + ", wide " + y.wide);
            throw new IllegalStateException();
        }
    }

    private String words(int n) {
        StringBuilder s = new StringBuilder();
        for (int k = 0; k < n; k++) {
            s.append((char) ('a' + draw(letters)));
        }
        return s.toString();
    }

    private void text(String s) {
        for (int p = 0; p < s.length(); p += 4) {
            int v = 0;
            for (int k = 0; k < 4; k++) {
                v = v << 8 | (p + k < s.length() ? s.charAt(p + k) : 'z');
            }
            due("sign(" + v + ")", x.sign(v), y.sign(v));
        }
        due("end(" + s.length() + ")", x.end(s.length()) ? 1 : 0, y.end(s.length()) ? 1 : 0);
    }

    private String line() {
        if (draw(6) == 0) {
            return words(1) + "=" + (draw(12) == 0 ? "" + draw(10) : "" + (1 + draw(9)));
        }
        if (level && draw(8) != 0) {
            String l = words(1 + draw(2));
            String r = words(l.length());
            for (int k = 0; k < 20 && !Plain.ahead(r, l); k++) {
                l = words(1 + draw(2));
                r = words(l.length());
            }
            return l + ">" + (Plain.ahead(r, l) ? r : "");
        }
        String l = words(1 + draw(draw(3) == 0 ? 5 : 3));
        String r = words(draw(l.length() + 1));
        for (int k = 0; k < 5 && !Plain.ahead(r, l); k++) {
            r = words(draw(l.length() + 1));
        }
        return Plain.ahead(r, l) || draw(20) == 0 ? l + ">" + r : l + ">";
    }

    private void tellRules(int lines) {
        StringBuilder s = new StringBuilder();
        for (int k = 0; k < lines; k++) {
            s.append(k == 0 ? "" : ";").append(line());
        }
        if (draw(8) == 0 && s.length() > 0) {
            String signs = "abh>=;09ix~";
            s.setCharAt(draw(s.length()), signs.charAt(draw(signs.length())));
        }
        if (draw(8) == 0) {
            s.setLength(draw(s.length() + 1));
        }
        s.setLength(Math.min(80, s.length()));
        text(s.toString());
        due("book() of " + s, x.book(), y.book());
    }

    private long code() {
        switch (draw(12)) {
            case 0:
                return draw(1000) - 5;
            case 1:
                return Plain.code(words(15));
            case 2:
            case 3:
            case 4:
                return Plain.code(y.minutes);
            case 5:
            case 6:
                return Plain.code(words(draw(4)));
            case 7:
                return 0;
            default:
                return near();
        }
    }

    /** A SAYING that THE MINUTES come to. */
    private long near() {
        Plain z = new Plain();
        z.left.addAll(y.left);
        z.right.addAll(y.right);
        z.speak(Plain.code(y.minutes));
        z.seed(draw(1000000));
        z.run(draw(4), draw(3) == 0 ? 500 : draw(6));
        return z.minutes();
    }

    private void call() {
        int which = level && draw(3) == 0 ? FOR_LEVEL[draw(FOR_LEVEL.length)] : draw(40);
        int n = draw(16) - 1;
        int clerk = draw(12) == 0 ? draw(7) - 2 : draw(4);
        long c = code();
        long d = code();
        switch (which) {
            case 0:
                text(draw(10) == 0 ? words(draw(20)) : words(level && draw(3) > 0 ? longest : draw(longest + 1)) + (draw(12) == 0 ? "i" : ""));
                due("speech()", x.speech(), y.speech());
                break;
            case 1:
                due("speak(" + c + ")", x.speak(c), y.speak(c));
                break;
            case 2:
                if (y.left.size() < 12 && draw(4) == 0) {
                    tellRules(1 + draw(3));
                }
                break;
            case 3:
                rule();
                break;
            case 4:
                int v = draw(12) - 1;
                due("weigh(" + n + ", " + v + ")", x.weigh(n, v), y.weigh(n, v));
                break;
            case 5:
                sheet();
                break;
            case 6:
                int w = draw(4) == 0 ? draw(11) - 1 : 1 + draw(letters);
                due("wide(" + w + ")", x.wide(w), y.wide(w));
                break;
            case 7:
                int i = draw(y.left.size() + 2) - 1;
                int j = draw(y.left.size() + 2) - 1;
                due("swap(" + i + ", " + j + ")", x.swap(i, j) ? 1 : 0, y.swap(i, j) ? 1 : 0);
                break;
            case 8:
                due("strike(" + clerk + ")", x.strike(clerk), y.strike(clerk));
                break;
            case 9:
                int m = draw(4) == 0 ? 498 + draw(5) : draw(level && draw(2) == 0 ? 100 : 8) - 1;
                due("run(" + clerk + ", " + m + ")", x.run(clerk, m), y.run(clerk, m));
                break;
            case 10:
                due("undo()", x.undo(), y.undo());
                break;
            case 11:
                due("anew()", x.anew(), y.anew());
                break;
            case 12:
                due("can()", x.can(), y.can());
                break;
            case 13:
                judge();
                break;
            case 14:
                due("net()", x.net(), y.net());
                break;
            case 15:
                int k = draw(6) - 1;
                due("done(" + k + ")", x.done(k), y.done(k));
                break;
            case 16:
            case 17:
                due("way(" + c + ")", x.way(c), y.way(c));
                break;
            case 18:
                due("ways(" + c + ")", x.ways(c), y.ways(c));
                break;
            case 19:
                due("clerks()", x.clerks(), y.clerks());
                break;
            case 20:
                due("meet(" + c + ", " + d + ")", x.meet(c, d), y.meet(c, d));
                break;
            case 21:
                due("overlaps()", x.overlaps(), y.overlaps());
                break;
            case 22:
                int o = draw(draw(3) == 0 ? 60 : 8) - 1;
                due("overlap(" + o + ")", x.overlap(o), y.overlap(o));
                break;
            case 23:
                due("idle()", x.idle(), y.idle());
                break;
            case 24:
                due("lessens()", x.lessens(), y.lessens());
                break;
            case 25:
                due("weights()", x.weights(), y.weights());
                break;
            default:
                callMore(which, n, clerk, c, d);
        }
    }

    private void callMore(int which, int n, int clerk, long c, long d) {
        int few = draw(8) == 0 ? n : draw(y.wide < 3 ? 8 : y.wide < 5 ? 5 : 4);
        switch (which) {
            case 26:
                int a = draw(15) - 1;
                due("complete(" + a + ")", x.complete(a), y.complete(a));
                break;
            case 27:
                due("same(" + c + ", " + d + ")", x.same(c, d), y.same(c, d));
                break;
            case 28:
            case 29:
                int most = draw(6) == 0 ? draw(12) - 1 : draw(9);
                long e = Plain.code(words(draw(Math.max(0, most) + 1)));
                long f = draw(2) == 0 ? c : Plain.code(words(draw(Math.max(0, most) + 1)));
                due("between(" + e + ", " + f + ", " + most + ")", x.between(e, f, most), y.between(e, f, most));
                break;
            case 30:
                long g = draw(2) == 0 ? c : Plain.code(words(draw(3)));
                due("come(" + clerk + ", " + few + ", " + g + ")", x.come(clerk, few, g), y.come(clerk, few, g));
                break;
            case 31:
                long h = draw(2) == 0 ? c : Plain.code(words(draw(3)));
                if (y.wide < 4 || draw(4) == 0) {
                    due("shortest(" + clerk + ", " + h + ")", x.shortest(clerk, h), y.shortest(clerk, h));
                }
                break;
            case 32:
                due("longest(" + clerk + ", " + few + ")", x.longest(clerk, few), y.longest(clerk, few));
                break;
            case 33:
                int s = draw(23) - 1;
                due("still(" + s + ")", x.still(s), y.still(s));
                break;
            case 34:
                due("sorts(" + clerk + ", " + few + ")", x.sorts(clerk, few), y.sorts(clerk, few));
                break;
            case 35:
                due("quarrels(" + few + ")", x.quarrels(few), y.quarrels(few));
                break;
            case 36:
                int v = draw(3) == 0 ? draw(10) : (int) drawn;
                due("seed(" + v + ")", x.seed(v), y.seed(v));
                break;
            case 37:
                int i = draw(5) - 1;
                due("keep(" + i + ")", x.keep(i) ? 1 : 0, y.keep(i) ? 1 : 0);
                break;
            case 38:
                int j = draw(5) - 1;
                due("again(" + j + ")", x.again(j) ? 1 : 0, y.again(j) ? 1 : 0);
                break;
            default:
                due("count(" + n + ")", x.count(n), y.count(n));
                due("end(" + n + ")", x.end(n) ? 1 : 0, y.end(n) ? 1 : 0);
        }
    }

    private void rule() {
        int i = draw(y.left.size() + 2) - 1;
        int what = draw(5) - 1;
        boolean is = i >= 0 && i < y.left.size() && what >= 0 && what < 3;
        try {
            long got = x.rule(i, what);
            due("rule(" + i + ", " + what + ")", got, is ? y.rule(i, what) : got + 1);
        } catch (NoSuchElementException e) {
            due("rule(" + i + ", " + what + ") throws", 1, is ? 0 : 1);
        }
    }

    private void sheet() {
        int kind = draw(6) - 1;
        int n = draw(12) - 2;
        int f = draw(2) == 0 ? draw(20) - 5 : (int) drawn;
        int step = draw(2) == 0 ? draw(9) - 4 : (int) (drawn >>> 20);
        due("sheet(" + kind + ", " + n + ", " + f + ", " + step + ")", x.sheet(kind, n, f, step), y.sheet(kind, n, f, step));
    }

    private void judge() {
        int n = draw(10) - 1;
        int a = 0;
        int b = 0;
        for (int k = 0; k < 4; k++) {
            a = a << 8 | draw(8) << 4 | draw(Math.min(16, y.left.size() + 1));
            b = b << 8 | draw(4) << 4 | draw(Math.min(16, y.left.size() + 1));
        }
        due("judge(" + n + ", " + a + ", " + b + ")", x.judge(n, a, b), y.judge(n, a, b));
    }

    public static void main(String[] args) {
        int runs = args.length > 0 ? Integer.parseInt(args[0]) : 250;
        if (args.length > 1) {
            drawn ^= Long.parseLong(args[1]) * 0x9E3779B97F4A7C15L;
        }
        for (int k = 0; k < runs && wrong == 0; k++) {
            boolean level = k % 5 == 0;
            int letters = level ? 2 + draw(draw(2) == 0 ? 2 : 7) : 1 + draw(draw(4) == 0 ? 8 : 3);
            PlainTest t = new PlainTest(letters, level ? 6 + draw(9) : 1 + draw(k % 4 == 0 ? 14 : 9), level);
            try {
                t.tellRules(1 + draw(level ? 8 : 3));
                t.tellRules(draw(4));
                if (draw(3) == 0) {
                    t.tellRules(draw(6));
                }
                for (int n = 0; n < 60; n++) {
                    t.call();
                }
            } catch (IllegalStateException e) {
                System.out.println("run " + k + " is wrong");
            }
        }
        System.out.println(wrong == 0 ? "all runs answer alike" : "a run answers otherwise");
        if (wrong != 0) {
            System.exit(1);
        }
    }
}
