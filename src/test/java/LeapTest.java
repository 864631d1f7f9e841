import java.util.ArrayList;
import java.util.Arrays;
import java.util.List;
import java.util.Random;

/**
 * Clerks who need many strikes (promises 22, 29, 30, 32 to 34, 36, 37): counters of which the answer is
 * known, and drawn ones that are struck word by word here. java LeapTest [runs [seed]].
 */
public final class LeapTest {
    private static final int MOST = 300000;
    // Base 7, the last word counts down first; then base 6 with a mark behind, base 5 by halves, base 2.
    private static final String[] COUNTERS = {
        "ba>ag;ca>bg;da>cg;ea>dg;fa>eg;ga>fg;b>a;c>b;d>c;e>d;f>e;g>f",
        "ch>bh;dh>ch;eh>dh;fh>eh;gh>fh;bh>ah;ba>ag;ca>bg;da>cg;ea>dg;fa>eg;ga>fg",
        "aa>h;ab>h;ba>h;bb>h;ed>dh;fd>eh;gd>fh;hd>gh;e>d;f>e;g>f;h>g",
        "ch>bh;bh>ah;ba>ac;ca>bc",
        "ba>ad;ca>bd;da>cd;b>a;c>b;d>c",
    };

    // RULES and words on which clerks who leapt a little wrongly were found out.
    private static final String[] TOUCHY = {
        "ba>ac;ccba>cabb;bcbbb>bcbba;ccc>cca;cacbb>cabcc;cb>ca;cc>cb;bcb>bbb;ca>bc;bccc>bbaa;bc>ba;babb>baac babccbccbcbccb cbabbbccbbacc ccbcacccacbcbb",
        "bcba>bbca;bbbb>bbba;bacb>abca;baa>abc;cbcb>caca;c>b;abbb>aacc;bba>abb;aa>c;b>a;bba>abc;bac>baa bcabcaccbaccbb bcabacbbccbaaa aabcacbcccbbbb",
        "aabb>cba;ca>bc;bbccc>bbcbc;ccbba>cacca;cbab>cacc;bbab>abaa;bbccc>abccb;bcba>bbcc;aca>abb;bb>ac;cbc>cbb;b>a aacaaabcbacac abbbcbccccbbcb bbcbcaccbbaaba",
        "aaa>cb;cbba>caab;cb>bc;c>b;cba>bab;ac>ab;caacb>caaca;cbcb>cacb;acbab>aabab;ba>ac;bbb>bba;cba>bac bcccacbcbabbab bcccbcbcbcabca cabbcaccbbaabb",
        "cb>ca;bcb>bca;ca>bc;c>a;cbcbb>cbcba;baccc>bacac;baabc>acaab;cc>cb;aaaaa>bbbb;bbbb>acab;ccc>bbc;cbcc>cbca bcaaabcbaabac cccacccacccccb ccccabbacbbbbb",
        "cc>af;f>e;ea>de;dbd>cec;b>a;bc>bb;fbd>bee;e>b;d>c;bfd>bea;df>da;ac>ab ddcfeaedbfbecd bafefefefadbbf deadeccbccecce",
        "d>c;ba>ad;ca>bd;ca>bc;cc>ca;d>c;dc>da;cd>ca;c>a;d>c;da>cd baadcbbcabbacd cabdddbaabbba abbddbacbaddbd",
        "cbbbb>bacbc;bba>bac;cccba>cccab;c>b;bb>ac;baaac>baaab;c>a;baa>abc;baca>abbb;babab>babaa;c>b;cb>aa ccabbbacbbbaba bcccbccbaccacc cabbccbcbccbab",
        "baaa>abab;baaaa>aabbb;abbab>abaab;bb>ba;abbba>abbab;baaaa>ababb;abb>aba;aabab>aabaa;bbb>abb;baa>abb;bb>ba;bbba>bbaa bbbababbaabab abbbaabaabaaba babbbabababaaa",
        "ac>e;cb>be;ee>ca;eee>eea;ebd>cad;d>c;ebb>dbe;e>b;decb>bdbb;badd>aacc;deee>dcac;eeee>bbeb eebceedbccedda cabedcddecbcd dadbccdeddaaab",
        "b>a;da>cd;dc>da;dd>da;ca>bc;cc>cb;d>b;d>c;ba>ad;dc>db;bd>bc;bb>ba ddaddcdabbcbdb addacdaaaddcbb ddccaddadadbda",
        "bbaaa>babaa;bbbab>aabaa;bbbbb>bbaba;baba>baab;bb>ba;baaa>abbb;ba>ab;baaab>aabba;b>a;bbab>aaab;bba>baa;babb>baba bbaaabababa abbbababbabbba abbaabaaabbaab",
    };

    private final Random random;
    private final List<String[]> rules = new ArrayList<>();
    private String left = "";

    private LeapTest(long seed) {
        random = new Random(seed);
    }

    public static void main(String[] args) {
        told();
        marked();
        lastFirst();
        aside();
        back();
        for (String t : TOUCHY) {
            Calls.of("22, " + t);
            new LeapTest(0).touchy(t.split(" "));
        }
        int runs = args.length > 0 ? Integer.parseInt(args[0]) : 400;
        long seed = args.length > 1 ? Long.parseLong(args[1]) : 1;
        for (int k = 0; k < runs; k++) {
            Calls.of("drawn " + (seed + k));
            new LeapTest(seed + k).drawn();
        }
        Calls.leave();
    }

    /** The run that was told as wrong: thirteen times d. */
    private static void told() {
        Calls.of("22");
        StrikeWhatCancels x = Calls.with(COUNTERS[4], "ddddddddddddd");
        Calls.due("clerks", x.clerks(), 1);
        long all = Calls.code("aaaaaaaaaaaaa");
        Calls.row(x, all, all, all, 39, 3587205, 39);
        Calls.due("again", x.clerks(), 1);
        Calls.row(x, all, all, all, 39, 3587205, 39);
        // What was kept is of other RULES now.
        x.swap(0, 3);
        x.swap(1, 4);
        x.swap(2, 5);
        Calls.due("words alone first", x.clerks(), 1);
        Calls.row(x, all, all, all, 39, 39, 39);
        Calls.book(x, "a>");
        x.swap(0, 3);
        x.swap(1, 4);
        x.swap(2, 5);
        Calls.due("and nothing left", x.clerks(), 1);
        Calls.due("code", x.row(1), 0);
        Calls.due("the same again", Calls.with(COUNTERS[4] + ";a>", "ddddddddddddd").clerks(), 1);
    }

    /** However it is struck, no STRIKE can be spared, so all CLERKS make as many. */
    private static void marked() {
        Calls.of("22, a mark behind");
        StrikeWhatCancels x = Calls.with(COUNTERS[1]);
        String words = "h";
        String end = "h";
        for (int n = 1; n <= 13; n++) {
            words = "g" + words;
            end = "a" + end;
            Calls.speech(x, words);
            long strikes = strikesOf(n);
            Calls.due(words, x.clerks(), 1);
            Calls.row(x, Calls.code(end), Calls.code(end), Calls.code(end), strikes, strikes, strikes);
        }
        Calls.due("of thirteen", strikesOf(13), 18807399366L);
        Calls.due("same", x.same(Calls.code(words), Calls.code(end)), 1);
        Calls.due("not the same", x.same(Calls.code(words), Calls.code(end.substring(1))), 0);
        Calls.row(x, Calls.code(end), Calls.code(end.substring(1)));
    }

    /** g .. gh: down to b .. bh, one a STRIKE and one more for each nought that lends; then a g .. gh. */
    private static long strikesOf(int n) {
        long strikes = 0;
        for (int k = n; k > 0; k--) {
            long power = 1;
            for (int p = 0; p < k; p++) {
                power *= 6;
                strikes += power - 1;
            }
            strikes += k;
        }
        return strikes;
    }

    /** CLERK 1 counts the last word down, and lends from the one ahead. */
    private static void lastFirst() {
        Calls.of("22, the last word first");
        StrikeWhatCancels x = Calls.with(COUNTERS[0]);
        LeapTest plain = new LeapTest(0);
        plain.take(COUNTERS[0]);
        String words = "";
        long[] made = new long[15];
        for (int n = 1; n <= 14; n++) {
            words += "g";
            Calls.speech(x, words);
            x.clerks();
            made[n] = x.row(4);
            Calls.due("words left of " + words, x.row(1), Calls.code(words.replace('g', 'a')));
            if (n <= 6) {
                Calls.due("strikes in " + words, made[n], plain.leave(words, 1));
            } else {
                // Each word more: seven times as many but for what grows by one.
                Calls.due("strikes in " + words, made[n], 7 * made[n - 1] - 6 * made[n - 2] + (made[3] - 7 * made[2] + 6 * made[1]));
            }
        }
    }

    /** CLERK 0 needs many millions of STRIKES till it is found whether two come to one. */
    private static void aside() {
        Calls.of("29, 30");
        String rules = "ch>bh;dh>ch;eh>dh;fh>eh;gh>fh;bh>ah;ba>ag;ca>bg;da>cg;ea>dg;fa>eg";
        StrikeWhatCancels x = Calls.with(rules);
        Calls.due("book", Calls.book(x, "ga>fg"), 1);
        Calls.due("nothing overlaps", x.complete(12), 0);
        Calls.row(x);
        long many = Calls.code("gggggggggh");
        long few = Calls.code("bgggggggggh");
        Calls.due("one of a row", x.same(many, Calls.code("agggggggggh")), 0);
        Calls.row(x, Calls.code("aaaaaaaaah"), Calls.code("aaaaaaaaaah"));
        Calls.due("one of a row", x.same(Calls.code("agggggggggh"), few), 1);
        Calls.row(x, Calls.code("aaaaaaaaaah"), Calls.code("aaaaaaaaaah"));
    }

    /** The run that was told as wrong, and the calls that ask for the same. */
    private static void back() {
        Calls.of("32 to 37");
        StrikeWhatCancels x = Calls.with(COUNTERS[2]);
        x.wide(2);
        long goal = Calls.code("dddddd");
        Calls.due("come", x.come(1, 12, goal), 4096);
        Calls.row(x, Calls.code("aaaaaaaaaaaa"));
        Calls.due("sorts", x.sorts(1, 12), 1);
        Calls.row(x, goal, 4096);
        Calls.due("longest", x.longest(1, 12), 7278);
        Calls.row(x, Calls.code("aaaaaaaaaaaa"), 0);
        Calls.due("shortest", x.shortest(1, goal), 11 + 1);
        Calls.row(x, Calls.code("aaaaaaaaaaaa"));
        Calls.due("quarrels", x.quarrels(12), 0);
        Calls.row(x);
        Calls.due("come, once more", x.come(1, 12, goal), 4096);
        Calls.due("come, by the first place", x.come(0, 12, goal), 4096);
        Calls.due("longest, by the first place", x.longest(0, 12), 6 + 6 * 4);
        x = Calls.with(COUNTERS[0]);
        x.wide(2);
        Calls.due("longest of many", x.longest(1, 12), 522427758);
        Calls.row(x, Calls.code("bbbbbbbbbbbb"), 1);
        Calls.due("come", x.come(1, 12, Calls.code("aaaaaaaaaaaa")), 4096);
    }

    /** What is kept is of RULES as they are: two of them change their places then. */
    private void touchy(String[] rulesAndWords) {
        take(rulesAndWords[0]);
        StrikeWhatCancels x = booked();
        for (int round = 0; round < 3; round++) {
            for (int k = 1; k < rulesAndWords.length; k++) {
                compareClerks(x, rulesAndWords[k]);
            }
            int last = rules.size() - 1;
            x.swap(0, last);
            String[] first = rules.set(0, rules.get(last));
            rules.set(last, first);
        }
    }

    private StrikeWhatCancels booked() {
        StrikeWhatCancels x = new StrikeWhatCancels();
        for (String[] r : rules) {
            Calls.due("book of " + r[0] + ">" + r[1], Calls.book(x, r[0] + ">" + r[1]), 1);
        }
        return x;
    }

    /** RULES like a counter's, some of them put for others; what is left is compared. */
    private void drawn() {
        take(COUNTERS[random.nextInt(COUNTERS.length)]);
        for (int k = random.nextInt(5); k > 0; k--) {
            change();
        }
        StrikeWhatCancels x = booked();
        for (int k = 0; k < 3; k++) {
            compareClerks(x, words(4 + random.nextInt(11), 8));
        }
        int wide = 2 + random.nextInt(7);
        int n = 0;
        while (n < 14 && Math.pow(wide, n + 1) <= 600) {
            n++;
        }
        x.wide(wide);
        compareAll(x, random.nextInt(3), n, wide);
    }

    private void compareClerks(StrikeWhatCancels x, String words) {
        Calls.speech(x, words);
        x.clerks();
        for (int clerk = 0; clerk < 3; clerk++) {
            long strikes = leave(words, clerk);
            if (strikes < MOST) {
                Calls.due("words left by " + clerk + " of " + words, x.row(clerk), Calls.code(left));
                Calls.due("strikes by " + clerk + " in " + words, x.row(3 + clerk), strikes);
            }
        }
    }

    private void compareAll(StrikeWhatCancels x, int clerk, int n, int wide) {
        int many = (int) Math.pow(wide, n);
        long most = -1;
        long none = 0;
        long first = 0;
        long all = 0;
        long[] ends = new long[many];
        for (int k = 0; k < many && all < MOST; k++) {
            String s = number(k, n, wide);
            long strikes = leave(s, clerk);
            ends[k] = Calls.code(left);
            none += strikes == 0 ? 1 : 0;
            first = strikes > most ? Calls.code(s) : first;
            most = Math.max(most, strikes);
            all += strikes;
        }
        if (all < MOST) {
            Calls.due("longest " + clerk + " " + n, x.longest(clerk, n), most);
            Calls.row(x, first, none);
            long goal = ends[random.nextInt(many)];
            Calls.due("come " + clerk + " " + n, x.come(clerk, n, goal), Arrays.stream(ends).filter(e -> e == goal).count());
            Calls.due("sorts " + clerk + " " + n, x.sorts(clerk, n), Arrays.stream(ends).distinct().count());
        }
    }

    private void take(String text) {
        rules.clear();
        for (String r : text.split(";")) {
            rules.add(r.split(">", -1));
        }
    }

    private void change() {
        int how = random.nextInt(4);
        if (how == 0) {
            rules.add(rules.remove(random.nextInt(rules.size())));
        } else if (how == 1 && rules.size() < 12) {
            rules.add(random.nextInt(rules.size() + 1), rule());
        } else {
            rules.set(random.nextInt(rules.size()), rule());
        }
    }

    private String[] rule() {
        while (true) {
            String l = words(1 + random.nextInt(5), 8);
            String r = words(Math.max(0, l.length() - random.nextInt(8) / 6), 8);
            if (random.nextBoolean()) {
                int p = random.nextInt(l.length());
                r = l.substring(0, p) + words(l.length() - p, 8);
            }
            if (r.length() < l.length() || r.length() == l.length() && r.compareTo(l) < 0) {
                return new String[] {l, r};
            }
        }
    }

    private String words(int n, int kinds) {
        StringBuilder s = new StringBuilder();
        for (int k = 0; k < n; k++) {
            s.append((char) ('a' + random.nextInt(kinds)));
        }
        return s.toString();
    }

    private static String number(int k, int n, int wide) {
        char[] s = new char[n];
        int rest = k;
        for (int p = n - 1; p >= 0; p--) {
            s[p] = (char) ('a' + rest % wide);
            rest /= wide;
        }
        return new String(s);
    }

    /** How many STRIKES a CLERK makes, at most MOST; 'left' is what he leaves. */
    private long leave(String words, int clerk) {
        StringBuilder s = new StringBuilder(words);
        long strikes = 0;
        while (strikes < MOST) {
            int[] next = next(s, clerk);
            if (next == null) {
                break;
            }
            String[] r = rules.get(next[0]);
            s.replace(next[1], next[1] + r[0].length(), r[1]);
            strikes++;
        }
        left = s.toString();
        return strikes;
    }

    private int[] next(StringBuilder s, int clerk) {
        int[] best = null;
        for (int i = 0; i < rules.size(); i++) {
            String l = rules.get(i)[0];
            int p = clerk == 1 ? s.lastIndexOf(l) : s.indexOf(l);
            if (p < 0) {
                continue;
            }
            if (clerk == 2) {
                return new int[] {i, p};
            }
            if (best == null || (clerk == 0 ? p < best[1] : p > best[1])) {
                best = new int[] {i, p};
            }
        }
        return best;
    }
}
