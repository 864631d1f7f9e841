import java.util.ArrayDeque;
import java.util.ArrayList;
import java.util.Arrays;
import java.util.Collections;
import java.util.HashMap;
import java.util.HashSet;
import java.util.LinkedHashMap;
import java.util.List;
import java.util.Map;
import java.util.Set;
import java.util.TreeSet;

/**
 * The document once more, written with texts and collections and without any thought of speed:
 * what PlainTest compares the class with. SAYINGS are Strings of a .. h.
 */
final class Plain {
    static final int NONE = -1;
    /** An answer that is not compared: it would take too long here. */
    static final long UNKNOWN = Long.MIN_VALUE;

    final List<String> left = new ArrayList<>();
    final List<String> right = new ArrayList<>();
    private final int[] weight = {1, 1, 1, 1, 1, 1, 1, 1};
    private List<Integer> text = new ArrayList<>();
    private String speech = "";
    String minutes = "";
    private final ArrayList<String> undone = new ArrayList<>();
    private int r = 1;
    int wide = 3;
    List<Long> row = new ArrayList<>();
    private final Object[][] kept = new Object[3][];

    // ---- SAYINGS

    static long code(String s) {
        long c = 0;
        for (char w : s.toCharArray()) {
            c = c * 9 + (w - 'a' + 1);
        }
        return c;
    }

    static String saying(long code) {
        if (code < 0) {
            return null;
        }
        String nine = code == 0 ? "" : Long.toString(code, 9);
        if (nine.length() > 14 || nine.indexOf('0') >= 0) {
            return null;
        }
        StringBuilder s = new StringBuilder();
        for (char d : nine.toCharArray()) {
            s.append((char) ('a' + d - '1'));
        }
        return s.toString();
    }

    static boolean ahead(String s, String t) {
        return s.length() != t.length() ? s.length() < t.length() : code(s) < code(t);
    }

    private static String least(String s, String t) {
        return ahead(s, t) ? s : t;
    }

    // ---- the book

    int sign(int v) {
        if (text.size() + 4 > 80) {
            return NONE;
        }
        for (int k = 3; k >= 0; k--) {
            text.add(v >> 8 * k & 255);
        }
        return text.size();
    }

    boolean end(int n) {
        if (n < 0 || n > text.size()) {
            return false;
        }
        text = new ArrayList<>(text.subList(0, n));
        return true;
    }

    private String takeText() {
        StringBuilder s = new StringBuilder();
        for (int c : text) {
            s.append((char) c);
        }
        text = new ArrayList<>();
        return s.toString();
    }

    /** Which signs could stand behind the signs of a line: '$' is its end. */
    private static boolean canStand(String line, char c, int rulesThere) {
        boolean word = c >= 'a' && c <= 'h';
        boolean end = c == ';' || c == '$';
        if (line.isEmpty()) {
            return word;
        }
        if (line.matches("[a-h]+")) {
            return word && line.length() < 5 || c == '>' && rulesThere < 12 || c == '=' && line.length() == 1;
        }
        if (line.matches(".=")) {
            return c >= '1' && c <= '9';
        }
        if (line.matches(".=.")) {
            return end;
        }
        int at = line.indexOf('>');
        String l = line.substring(0, at);
        String rr = line.substring(at + 1);
        return word && rr.length() < 5 || end && ahead(rr, l);
    }

    int book() {
        String s = takeText();
        if (s.isEmpty()) {
            return 0;
        }
        List<String> lines = new ArrayList<>();
        String line = "";
        int there = left.size();
        for (int p = 0; p < s.length(); p++) {
            char c = s.charAt(p);
            if (p == 76 || c == '$' || !canStand(line, c, there)) {
                return -1 - p;
            }
            there += c == '>' ? 1 : 0;
            if (c == ';') {
                lines.add(line);
                line = "";
            } else {
                line += c;
            }
        }
        if (!canStand(line, '$', there)) {
            return -1 - s.length();
        }
        lines.add(line);
        for (String l : lines) {
            int at = l.indexOf('>');
            if (at < 0) {
                weight[l.charAt(0) - 'a'] = l.charAt(2) - '0';
            } else {
                left.add(l.substring(0, at));
                right.add(l.substring(at + 1));
            }
        }
        return lines.size();
    }

    int speech() {
        String s = takeText();
        for (int p = 0; p < s.length(); p++) {
            if (p >= 14 || s.charAt(p) < 'a' || s.charAt(p) > 'h') {
                return -1 - p;
            }
        }
        return speak(code(s));
    }

    int speak(long code) {
        String s = saying(code);
        if (s == null) {
            return NONE;
        }
        speech = s;
        minutes = s;
        undone.clear();
        return s.length();
    }

    /** Of a RULE that is there and of what 0 .. 2. */
    long rule(int i, int what) {
        return what == 0 ? code(left.get(i)) : what == 1 ? code(right.get(i)) : less(i, weight);
    }

    private int less(int i, int[] weights) {
        int sum = 0;
        for (char w : left.get(i).toCharArray()) {
            sum += weights[w - 'a'];
        }
        for (char w : right.get(i).toCharArray()) {
            sum -= weights[w - 'a'];
        }
        return sum;
    }

    int weigh(int word, int v) {
        if (word < 0 || word > 7 || v < 1 || v > 9) {
            return NONE;
        }
        int was = weight[word];
        weight[word] = v;
        return was;
    }

    int sheet(int kind, int n, int f, int step) {
        if (kind < 0 || kind > 3 || n > 8) {
            return NONE;
        }
        if (kind != 3 && n < 0) {
            return -2;
        }
        Arrays.fill(weight, 1);
        if (kind == 3) {
            return -3;
        }
        int entry = f;
        for (int k = 0; k < n; k++) {
            int v = kind == 0 ? (byte) entry : kind == 1 ? (short) entry : entry;
            weight[k] = v < 1 ? 1 : v > 9 ? 9 : v;
            entry += step;
        }
        return Arrays.stream(weight).sum();
    }

    int wide(int v) {
        int was = wide;
        if (v < 1 || v > 8) {
            return NONE;
        }
        wide = v;
        return was;
    }

    boolean swap(int i, int j) {
        if (i < 0 || j < 0 || i >= left.size() || j >= left.size() || i == j) {
            return false;
        }
        Collections.swap(left, i, j);
        Collections.swap(right, i, j);
        return true;
    }

    // ---- striking

    private boolean fits(String l, String s, int place) {
        return s.startsWith(l, place);
    }

    /** All STRIKES (RULE, place) by RULES, then by places. */
    private static List<int[]> strikes(String s, List<String> lefts) {
        List<int[]> all = new ArrayList<>();
        for (int i = 0; i < lefts.size(); i++) {
            for (int p = 0; p < s.length(); p++) {
                if (s.startsWith(lefts.get(i), p)) {
                    all.add(new int[] {i, p});
                }
            }
        }
        return all;
    }

    private static String struck(String s, int[] strike, List<String> lefts, List<String> rights) {
        int p = strike[1];
        String l = lefts.get(strike[0]);
        return s.substring(0, p) + rights.get(strike[0]) + s.substring(p + l.length());
    }

    private String struck(String s, int[] strike) {
        return struck(s, strike, left, right);
    }

    private static int[] pick(int clerk, String s, List<String> lefts) {
        List<int[]> all = strikes(s, lefts);
        int[] best = null;
        for (int[] k : all) {
            boolean better = best == null
                || clerk == 0 && (k[1] < best[1] || k[1] == best[1] && k[0] < best[0])
                || clerk == 1 && (k[1] > best[1] || k[1] == best[1] && k[0] < best[0])
                || clerk == 2 && (k[0] < best[0] || k[0] == best[0] && k[1] < best[1]);
            best = better ? k : best;
        }
        return best;
    }

    private int[] strikeOnce(int clerk) {
        int[] k;
        if (clerk < 3) {
            k = pick(clerk, minutes, left);
        } else {
            List<int[]> all = strikes(minutes, left);
            all.sort((a, b) -> a[1] != b[1] ? a[1] - b[1] : a[0] - b[0]);
            if (all.isEmpty()) {
                return null;
            }
            r = r * 1103515245 + 12345;
            k = all.get((int) (Integer.toUnsignedLong(r) / 65536 % all.size()));
        }
        if (k != null) {
            undone.add(minutes);
            if (undone.size() > 64) {
                undone.remove(0);
            }
            minutes = struck(minutes, k);
        }
        return k;
    }

    int strike(int clerk) {
        if (clerk < 0 || clerk > 3) {
            return NONE;
        }
        int[] k = strikeOnce(clerk);
        if (k == null) {
            return -2;
        }
        row = List.of((long) k[1], code(minutes));
        return k[0];
    }

    int run(int clerk, int n) {
        if (clerk < 0 || clerk > 3 || n < 0 || n > 500) {
            return NONE;
        }
        long[] by = new long[left.size()];
        int often = 0;
        while (often < n) {
            int[] k = strikeOnce(clerk);
            if (k == null) {
                break;
            }
            by[k[0]]++;
            often++;
        }
        row = new ArrayList<>();
        row.add(code(minutes));
        for (long b : by) {
            row.add(b);
        }
        return often;
    }

    int undo() {
        if (undone.isEmpty()) {
            return NONE;
        }
        minutes = undone.remove(undone.size() - 1);
        return undone.size();
    }

    long anew() {
        minutes = speech;
        undone.clear();
        return code(minutes);
    }

    int can() {
        row = new ArrayList<>();
        int sum = 0;
        for (String l : left) {
            long n = strikes(minutes, List.of(l)).size();
            row.add(n);
            sum += (int) n;
        }
        return sum;
    }

    int judge(int n, int a, int b) {
        if (n < 0 || n > 7) {
            return NONE;
        }
        long bits = Integer.toUnsignedLong(a) | Integer.toUnsignedLong(b) << 32;
        String s = speech;
        int answer = -2;
        for (int k = 0; k < n && answer == -2; k++) {
            int rule = (int) (bits >>> 8 * k & 15);
            int place = (int) (bits >>> 8 * k + 4 & 15);
            if (rule < left.size() && place <= s.length() && fits(left.get(rule), s, place)) {
                s = struck(s, new int[] {rule, place});
            } else {
                answer = k;
            }
        }
        row = List.of(code(s));
        return answer;
    }

    // ---- all that can come of it

    /** All that a SAYING LEADS to, with the fewest STRIKES to each; null for more than 3000. */
    private static Map<String, Integer> reach(String s, List<String> lefts, List<String> rights) {
        Map<String, Integer> far = new LinkedHashMap<>();
        ArrayDeque<String> open = new ArrayDeque<>();
        far.put(s, 0);
        open.add(s);
        while (!open.isEmpty()) {
            String t = open.remove();
            for (int[] k : strikes(t, lefts)) {
                String u = struck(t, k, lefts, rights);
                if (!far.containsKey(u)) {
                    far.put(u, far.get(t) + 1);
                    open.add(u);
                    if (far.size() > 3000) {
                        return null;
                    }
                }
            }
        }
        return far;
    }

    private boolean isDone(String s) {
        return strikes(s, left).isEmpty();
    }

    int net() {
        Map<String, Integer> far = reach(minutes, left, right);
        if (far == null) {
            return -3;
        }
        long ends = 0;
        long fewest = Long.MAX_VALUE;
        for (String s : far.keySet()) {
            if (isDone(s)) {
                ends++;
                fewest = Math.min(fewest, far.get(s));
            }
        }
        row = List.of(ends, (long) most(far), fewest);
        return far.size();
    }

    private List<String> ordered(Map<String, Integer> far) {
        List<String> all = new ArrayList<>(far.keySet());
        all.sort((a, b) -> Long.compare(code(a), code(b)));
        return all;
    }

    private int most(Map<String, Integer> far) {
        Map<String, Integer> most = new HashMap<>();
        for (String s : ordered(far)) {
            int m = 0;
            for (int[] k : strikes(s, left)) {
                m = Math.max(m, most.get(struck(s, k)) + 1);
            }
            most.put(s, m);
        }
        return most.get(minutes);
    }

    long done(int k) {
        if (k < 0) {
            return NONE;
        }
        Map<String, Integer> far = reach(minutes, left, right);
        if (far == null) {
            return -3;
        }
        List<String> ends = new ArrayList<>();
        for (String s : ordered(far)) {
            if (isDone(s)) {
                ends.add(s);
            }
        }
        return k < ends.size() ? code(ends.get(k)) : -2;
    }

    /** Of each SAYING reached the fewest STRIKES from it to a goal (those that lead there alone). */
    private Map<String, Integer> till(String goal, Map<String, Integer> far) {
        Map<String, Integer> till = new HashMap<>();
        for (String s : ordered(far)) {
            if (s.equals(goal)) {
                till.put(s, 0);
            }
            for (int[] k : strikes(s, left)) {
                Integer n = till.get(struck(s, k));
                if (n != null && !s.equals(goal)) {
                    till.merge(s, n + 1, Math::min);
                }
            }
        }
        return till;
    }

    int way(long code) {
        String goal = saying(code);
        if (goal == null) {
            return NONE;
        }
        Map<String, Integer> far = reach(minutes, left, right);
        if (far == null) {
            return -3;
        }
        Map<String, Integer> till = till(goal, far);
        if (!till.containsKey(minutes)) {
            return -2;
        }
        row = new ArrayList<>();
        String s = minutes;
        for (int n = till.get(minutes); n > 0; n--) {
            for (int[] k : strikes(s, left)) {
                Integer rest = till.get(struck(s, k));
                if (rest != null && rest == n - 1) {
                    s = struck(s, k);
                    if (row.size() < 16) {
                        row.add((long) k[0]);
                        row.add((long) k[1]);
                    }
                    break;
                }
            }
        }
        return till.get(minutes);
    }

    long ways(long code) {
        String goal = saying(code);
        if (goal == null) {
            return NONE;
        }
        Map<String, Integer> far = reach(minutes, left, right);
        if (far == null) {
            return -3;
        }
        if (!far.containsKey(goal)) {
            return -2;
        }
        Map<String, Long> toGoal = new HashMap<>();
        Map<String, Long> toEnd = new HashMap<>();
        for (String s : ordered(far)) {
            long g = s.equals(goal) ? 1 : 0;
            long e = isDone(s) ? 1 : 0;
            for (int[] k : strikes(s, left)) {
                g += toGoal.get(struck(s, k));
                e += toEnd.get(struck(s, k));
            }
            toGoal.put(s, g);
            toEnd.put(s, e);
        }
        row = List.of(toEnd.get(minutes));
        return toGoal.get(minutes);
    }

    private static String leave(int clerk, String s, List<String> lefts, List<String> rights, long[] steps) {
        String t = s;
        steps[0] = 0;
        for (int[] k = pick(clerk, t, lefts); k != null; k = pick(clerk, t, lefts)) {
            t = struck(t, k, lefts, rights);
            steps[0]++;
        }
        return t;
    }

    int clerks() {
        Set<String> all = new HashSet<>();
        List<Long> steps = new ArrayList<>();
        row = new ArrayList<>();
        for (int c = 0; c < 3; c++) {
            long[] n = new long[1];
            String s = leave(c, minutes, left, right, n);
            all.add(s);
            row.add(code(s));
            steps.add(n[0]);
        }
        row.addAll(steps);
        return all.size();
    }

    /** The first that both lead to; null for none; throws for a search that is too long. */
    private static String meeting(String a, String b, List<String> lefts, List<String> rights) {
        Map<String, Integer> one = reach(a, lefts, rights);
        Map<String, Integer> other = reach(b, lefts, rights);
        if (one == null || other == null) {
            throw new IllegalStateException();
        }
        String best = null;
        for (String s : one.keySet()) {
            if (other.containsKey(s)) {
                best = best == null ? s : least(best, s);
            }
        }
        return best;
    }

    int meet(long one, long other) {
        String a = saying(one);
        String b = saying(other);
        if (a == null || b == null) {
            return NONE;
        }
        try {
            String m = meeting(a, b, left, right);
            row = m == null ? List.of() : List.of(code(m));
            return m == null ? 0 : 1;
        } catch (IllegalStateException e) {
            return -3;
        }
    }

    // ---- overlaps

    private static final class Overlap {
        int i;
        int j;
        int n;
        String whole;
        String one;
        String other;
    }

    private static List<Overlap> allOverlaps(List<String> lefts, List<String> rights) {
        List<Overlap> all = new ArrayList<>();
        for (int i = 0; i < lefts.size(); i++) {
            for (int j = 0; j < lefts.size(); j++) {
                String l = lefts.get(i);
                String m = lefts.get(j);
                for (int n = 1; n < Math.min(l.length(), m.length()); n++) {
                    if (l.endsWith(m.substring(0, n))) {
                        all.add(overlap(i, j, n, l + m.substring(n), l.length() - n, lefts, rights));
                    }
                }
                for (int p = 0; i != j && p < l.length(); p++) {
                    if (l.startsWith(m, p)) {
                        all.add(overlap(i, j, 10 + p, l, p, lefts, rights));
                    }
                }
            }
        }
        return all;
    }

    private static Overlap overlap(int i, int j, int n, String whole, int p, List<String> lefts, List<String> rights) {
        Overlap o = new Overlap();
        o.i = i;
        o.j = j;
        o.n = n;
        o.whole = whole;
        o.one = struck(whole, new int[] {i, 0}, lefts, rights);
        o.other = struck(whole, new int[] {j, p}, lefts, rights);
        return o;
    }

    int overlaps() {
        List<Overlap> all = allOverlaps(left, right);
        long apart = 0;
        long first = NONE;
        try {
            for (int k = 0; k < all.size(); k++) {
                if (meeting(all.get(k).one, all.get(k).other, left, right) == null) {
                    first = apart == 0 ? k : first;
                    apart++;
                }
            }
        } catch (IllegalStateException e) {
            return -3;
        }
        row = List.of(apart, first);
        return all.size();
    }

    int overlap(int k) {
        if (k < 0) {
            return NONE;
        }
        List<Overlap> all = allOverlaps(left, right);
        if (k >= all.size()) {
            return -2;
        }
        Overlap o = all.get(k);
        try {
            int answer = meeting(o.one, o.other, left, right) == null ? 0 : 1;
            row = List.of((long) o.i, (long) o.j, (long) o.n, code(o.whole), code(o.one), code(o.other));
            return answer;
        } catch (IllegalStateException e) {
            return -3;
        }
    }

    int idle() {
        int bits = 0;
        try {
            for (int i = 0; i < left.size(); i++) {
                List<String> l = new ArrayList<>(left);
                List<String> m = new ArrayList<>(right);
                String from = l.remove(i);
                String to = m.remove(i);
                bits |= meeting(from, to, l, m) == null ? 0 : 1 << i;
            }
        } catch (IllegalStateException e) {
            return -3;
        }
        return bits;
    }

    // ---- weights

    int lessens() {
        long least = NONE;
        long by = 0;
        boolean all = true;
        for (int i = 0; i < left.size(); i++) {
            int d = less(i, weight);
            all &= d > 0;
            if (least == NONE || d < by) {
                least = i;
                by = d;
            }
        }
        row = List.of(least, by);
        return all ? 1 : 0;
    }

    long weights() {
        TreeSet<Character> used = new TreeSet<>();
        for (String l : left) {
            for (char c : l.toCharArray()) {
                used.add(c);
            }
        }
        for (String l : right) {
            for (char c : l.toCharArray()) {
                used.add(c);
            }
        }
        if (used.size() > 5) {
            return UNKNOWN;
        }
        int[] w = {1, 1, 1, 1, 1, 1, 1, 1};
        row = new ArrayList<>();
        if (!weighOut(new ArrayList<>(used), 0, w)) {
            return 0;
        }
        for (int v : w) {
            row.add((long) v);
        }
        return 1;
    }

    private boolean weighOut(List<Character> used, int k, int[] w) {
        if (k == used.size()) {
            for (int i = 0; i < left.size(); i++) {
                if (less(i, w) <= 0) {
                    return false;
                }
            }
            return true;
        }
        for (int v = 1; v <= 9; v++) {
            w[used.get(k) - 'a'] = v;
            if (weighOut(used, k + 1, w)) {
                return true;
            }
        }
        return false;
    }

    // ---- rules added

    private boolean completed;
    private List<String> moreLeft;
    private List<String> moreRight;

    private void completeAside(int n) {
        moreLeft = new ArrayList<>(left);
        moreRight = new ArrayList<>(right);
        completed = false;
        while (true) {
            String[] tell = firstUnlike();
            if (tell == null) {
                completed = true;
                return;
            }
            if (moreLeft.size() - left.size() == n || tell[0].length() > 5) {
                return;
            }
            moreLeft.add(tell[0]);
            moreRight.add(tell[1]);
        }
    }

    private String[] firstUnlike() {
        for (Overlap o : allOverlaps(moreLeft, moreRight)) {
            String a = leave(0, o.one, moreLeft, moreRight, new long[1]);
            String b = leave(0, o.other, moreLeft, moreRight, new long[1]);
            if (!a.equals(b)) {
                return ahead(a, b) ? new String[] {b, a} : new String[] {a, b};
            }
        }
        return null;
    }

    int complete(int n) {
        if (n < 0 || n > 12) {
            return NONE;
        }
        completeAside(n);
        row = new ArrayList<>();
        for (int k = left.size(); k < moreLeft.size(); k++) {
            row.add(code(moreLeft.get(k)));
            row.add(code(moreRight.get(k)));
        }
        return completed ? moreLeft.size() - left.size() : -2;
    }

    int same(long one, long other) {
        String a = saying(one);
        String b = saying(other);
        if (a == null || b == null) {
            return NONE;
        }
        completeAside(12);
        String c = leave(0, a, moreLeft, moreRight, new long[1]);
        String d = leave(0, b, moreLeft, moreRight, new long[1]);
        row = List.of(code(c), code(d));
        return c.equals(d) ? 1 : completed ? 0 : -2;
    }

    private Set<String> around(String s, int most) {
        Set<String> all = new HashSet<>();
        for (int i = 0; i < left.size(); i++) {
            for (int p = 0; p <= s.length(); p++) {
                if (s.startsWith(left.get(i), p)) {
                    all.add(s.substring(0, p) + right.get(i) + s.substring(p + left.get(i).length()));
                }
                if (s.startsWith(right.get(i), p)) {
                    all.add(s.substring(0, p) + left.get(i) + s.substring(p + right.get(i).length()));
                }
            }
        }
        all.removeIf(t -> t.length() > most);
        return all;
    }

    int between(long one, long other, int most) {
        String a = saying(one);
        String b = saying(other);
        if (most < 0 || most > 8 || a == null || b == null || a.length() > most || b.length() > most) {
            return NONE;
        }
        // How far all are from the first one, level by level.
        Map<String, Integer> far = new HashMap<>();
        List<String> level = new ArrayList<>(List.of(a));
        far.put(a, 0);
        for (int d = 1; !far.containsKey(b); d++) {
            if (far.size() > 3000) {
                return -3;
            }
            List<String> next = new ArrayList<>();
            for (String s : level) {
                for (String t : around(s, most)) {
                    if (far.putIfAbsent(t, d) == null) {
                        next.add(t);
                    }
                }
            }
            if (next.isEmpty()) {
                return -2;
            }
            level = next;
        }
        // Back from the goal, the SAYINGS on shortest ways; then forth along the least.
        int n = far.get(b);
        List<Set<String>> on = new ArrayList<>();
        on.add(Set.of(b));
        for (int d = n - 1; d >= 0; d--) {
            Set<String> ahead = new HashSet<>();
            for (String s : on.get(0)) {
                for (String t : around(s, most)) {
                    if (far.getOrDefault(t, -1) == d) {
                        ahead.add(t);
                    }
                }
            }
            on.add(0, ahead);
        }
        row = new ArrayList<>();
        String s = a;
        for (int d = 1; d <= n; d++) {
            String best = null;
            for (String t : around(s, most)) {
                if (on.get(d).contains(t)) {
                    best = best == null ? t : least(best, t);
                }
            }
            s = best;
            if (d <= 8) {
                row.add(code(s));
            }
        }
        return n;
    }

    // ---- speeches back from minutes

    private long manyOf(int n) {
        return Math.round(Math.pow(wide, n));
    }

    private List<String> allOf(int n) {
        List<String> all = new ArrayList<>(List.of(""));
        for (int k = 0; k < n; k++) {
            List<String> more = new ArrayList<>();
            for (String s : all) {
                for (int w = 0; w < wide; w++) {
                    more.add(s + (char) ('a' + w));
                }
            }
            all = more;
        }
        return all;
    }

    private int refusal(int clerk, int n) {
        return clerk < 0 || clerk > 2 || n < 0 || n > 14 ? NONE : manyOf(n) > 4096 ? -3 : 0;
    }

    private String leave(int clerk, String s) {
        return leave(clerk, s, left, right, new long[1]);
    }

    int come(int clerk, int n, long code) {
        String goal = saying(code);
        int no = goal == null ? NONE : refusal(clerk, n);
        if (no < 0) {
            return no;
        }
        int many = 0;
        row = List.of();
        for (String s : allOf(n)) {
            if (leave(clerk, s).equals(goal)) {
                row = many == 0 ? List.of(code(s)) : row;
                many++;
            }
        }
        return many;
    }

    int shortest(int clerk, long code) {
        String goal = saying(code);
        if (goal == null || clerk < 0 || clerk > 2) {
            return NONE;
        }
        for (int n = goal.length() + 1; n <= 14 && manyOf(n) <= 4096; n++) {
            for (String s : allOf(n)) {
                if (leave(clerk, s).equals(goal)) {
                    row = List.of(code(s));
                    return n;
                }
            }
        }
        return -2;
    }

    int longest(int clerk, int n) {
        int no = refusal(clerk, n);
        if (no < 0) {
            return no;
        }
        long most = -1;
        long none = 0;
        String first = null;
        for (String s : allOf(n)) {
            long[] steps = new long[1];
            leave(clerk, s, left, right, steps);
            none += steps[0] == 0 ? 1 : 0;
            if (steps[0] > most) {
                most = steps[0];
                first = s;
            }
        }
        row = List.of(code(first), none);
        return (int) most;
    }

    long still(int n) {
        if (n < 0 || n > 20) {
            return NONE;
        }
        Map<String, Long> many = new HashMap<>(Map.of("", 1L));
        for (int k = 0; k < n; k++) {
            Map<String, Long> more = new HashMap<>();
            for (Map.Entry<String, Long> e : many.entrySet()) {
                for (int w = 0; w < wide; w++) {
                    String s = e.getKey() + (char) ('a' + w);
                    if (left.stream().noneMatch(s::endsWith)) {
                        more.merge(s.substring(Math.max(0, s.length() - 4)), e.getValue(), Long::sum);
                    }
                }
            }
            many = more;
        }
        return many.values().stream().mapToLong(v -> v).sum();
    }

    int sorts(int clerk, int n) {
        int no = refusal(clerk, n);
        if (no < 0) {
            return no;
        }
        Map<String, Long> often = new HashMap<>();
        for (String s : allOf(n)) {
            often.merge(leave(clerk, s), 1L, Long::sum);
        }
        String best = null;
        for (String s : often.keySet()) {
            if (best == null || often.get(s) > often.get(best)
                || often.get(s).equals(often.get(best)) && ahead(s, best)) {
                best = s;
            }
        }
        row = List.of(code(best), often.get(best));
        return often.size();
    }

    int quarrels(int n) {
        int no = refusal(0, n);
        if (no < 0) {
            return no;
        }
        int many = 0;
        row = List.of();
        for (String s : allOf(n)) {
            if (!leave(0, s).equals(leave(1, s))) {
                row = many == 0 ? List.of(code(s)) : row;
                many++;
            }
        }
        return many;
    }

    // ---- kept

    int seed(int v) {
        int was = r;
        r = v;
        return was;
    }

    boolean keep(int i) {
        if (i < 0 || i > 2) {
            return false;
        }
        kept[i] = new Object[] {speech, minutes, r, weight.clone(), wide};
        return true;
    }

    boolean again(int i) {
        if (i < 0 || i > 2 || kept[i] == null) {
            return false;
        }
        speech = (String) kept[i][0];
        minutes = (String) kept[i][1];
        r = (Integer) kept[i][2];
        System.arraycopy((int[]) kept[i][3], 0, weight, 0, 8);
        wide = (Integer) kept[i][4];
        undone.clear();
        return true;
    }

    int count(int what) {
        int[] all = {left.size(), speech.length(), minutes.length(), undone.size(), wide, row.size(), text.size()};
        return what < 0 || what > 6 ? NONE : all[what];
    }

    long minutes() {
        return code(minutes);
    }
}
