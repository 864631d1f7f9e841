import java.util.ArrayList;
import java.util.List;

/**
 * Calls that take long: RULES for which each of them was found to take the longest, answered by the class
 * and by Plain.
 */
public final class DearTest {
    /** RULES, words, WIDE, how many WORDS are asked for. */
    private static final String[] DEAR = {
        "ababb>aabba;bbaab>baba;bab>aab;aabaa>;bbaba>abaaa;abba>;aa>b;b>;a>;aa>a;baa>aba;abbab>ababb aaaabbaaaaabab 2 9",
        "ffg>ce;dcb>f;d>;gb>c;gah>ef;be>;he>gb;hf>cg;b>;fgc>;gb>eh;g> fcaadahedcbcfh 4 4",
        "aa>;ab>;baa>abb;bb>ba;bbba>abbb;b>;abba>aaaa;bab>;bab>ab;baaa>abaa;ba>ab;baba>b abbaaababbbaba 2 9",
        "f>;a>;d>b;g>b;e>b;e>;f>;c>b;f>e;e>d;g>d;b>a fdbbfacfadeegb 8 3",
        "aabbb>cccc;ba>ac;caacb>baaaa;caacc>caacb;bcccc>abcaa;baaa>acab;bab>acb;bcb>acb;abc>aac;cb>bc;ca>bc;bbac>aaaa"
            + " babaacbbcbbabc 2 9",
        "cb>ca;d>a;be>bb;eeb>bcc;eee>cae;e>b;ba>ac;e>a;dca>daa;bb>ab;ca>bb;a> abeaeecbbdcebb 2 9",
        "fe>de;fa>bd;e>c;da>cc;fd>ce;ce>ba;ed>db;cc>af;ba>ad;fb>ae;f>a;ef>ad efdefbdfceddfd 2 9",
        "ba>ac;ca>bc;cb>bc;c>b;bb>ba;aa>c cccccccccccccc 3 6",
        "h>g;h>f;h>e;h>d;h>c;h>b;h>a;g>a;f>a;e>a;d>a;c>b hhhh 8 3",
    };

    private final StrikeWhatCancels x = new StrikeWhatCancels();
    private final Plain y = new Plain();
    private String rules = "";

    public static void main(String[] args) {
        for (String d : DEAR) {
            new DearTest().asked(d.split(" "));
        }
        Calls.leave();
    }

    private void due(String call, long got, long want) {
        Calls.of(call + " under " + rules);
        if (want == Plain.UNKNOWN) {
            return;
        }
        Calls.due("the answer", got, want);
        List<Long> row = new ArrayList<>();
        for (int k = 0; k < x.count(5); k++) {
            row.add(x.row(k));
        }
        Calls.due("the row", row.toString(), y.row.toString());
    }

    private void book(String line) {
        Calls.text(x, line);
        for (int p = 0; p < line.length(); p += 4) {
            int v = 0;
            for (int k = p; k < p + 4; k++) {
                v = v << 8 | (k < line.length() ? line.charAt(k) : 0);
            }
            y.sign(v);
        }
        y.end(line.length());
        due("book", x.book(), y.book());
    }

    private void asked(String[] dear) {
        rules = dear[0];
        for (String line : rules.split(";")) {
            book(line);
        }
        String words = dear[1];
        due("speak", x.speak(Calls.code(words)), y.speak(Calls.code(words)));
        int wide = Integer.parseInt(dear[2]);
        due("wide", x.wide(wide), y.wide(wide));
        comes(words);
        overlap();
        aside(words);
        for (int clerk = 0; clerk < 3; clerk++) {
            back(clerk, Integer.parseInt(dear[3]));
        }
        due("quarrels", x.quarrels(Integer.parseInt(dear[3])), y.quarrels(Integer.parseInt(dear[3])));
    }

    private void comes(String words) {
        long goal = Calls.code(words.substring(2));
        due("clerks", x.clerks(), y.clerks());
        long left = x.row(0);
        for (int n = words.length(); n > 0; n -= 3) {
            long part = Calls.code(words.substring(0, n));
            due("speak", x.speak(part), y.speak(part));
            due("net", x.net(), y.net());
            due("done", x.done(0), y.done(0));
            due("way", x.way(left), y.way(left));
            due("ways", x.ways(0), y.ways(0));
            due("meet", x.meet(part, goal), y.meet(part, goal));
        }
    }

    private void overlap() {
        due("overlaps", x.overlaps(), y.overlaps());
        due("overlap", x.overlap(40), y.overlap(40));
        due("idle", x.idle(), y.idle());
        due("lessens", x.lessens(), y.lessens());
        due("weights", x.weights(), y.weights());
    }

    private void aside(String words) {
        long one = Calls.code(words);
        long other = Calls.code(words.substring(1));
        due("complete(12)", x.complete(12), y.complete(12));
        due("complete(2)", x.complete(2), y.complete(2));
        due("same", x.same(one, other), y.same(one, other));
        int most = Math.min(8, words.length());
        long from = Calls.code(words.substring(0, most));
        long to = Calls.code(words.substring(words.length() - most));
        due("between", x.between(from, to, most), y.between(from, to, most));
        due("between", x.between(from, Calls.code(words.substring(0, most / 2)), most),
            y.between(from, Calls.code(words.substring(0, most / 2)), most));
    }

    private void back(int clerk, int n) {
        due("longest", x.longest(clerk, n), y.longest(clerk, n));
        due("sorts", x.sorts(clerk, n), y.sorts(clerk, n));
        long goal = x.row(0);
        due("come", x.come(clerk, n, goal), y.come(clerk, n, goal));
        due("still", x.still(n + 5), y.still(n + 5));
    }
}
