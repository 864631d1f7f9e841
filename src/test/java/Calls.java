import java.util.Arrays;
import java.util.NoSuchElementException;

/** What the tests of the promises share: calls with the answers that are due. */
final class Calls {
    /** Each word is put down by one: all that comes of n words of the 'steps' are rows of less ones. */
    static final String STEPS = "h>g;g>f;f>e;e>d;d>c;c>b;b>a";
    private static int wrong = 0;
    private static String promise = "";

    private Calls() {
    }

    static void of(String which) {
        promise = which;
    }

    static void due(String what, long got, long want) {
        if (got != want) {
            wrong++;
            System.out.println(promise + ": " + what + " answered " + got + ", due is " + want);
        }
    }

    static void due(String what, boolean got, boolean want) {
        due(what, got ? 1 : 0, want ? 1 : 0);
    }

    static void due(String what, String got, String want) {
        if (!got.equals(want)) {
            wrong++;
            System.out.println(promise + ": " + what + " is " + got + ", due is " + want);
        }
    }

    /** THE ROW has these numbers and no others. */
    static void row(StrikeWhatCancels x, long... want) {
        long[] got = new long[x.count(5)];
        for (int k = 0; k < got.length; k++) {
            got[k] = x.row(k);
        }
        if (!Arrays.equals(got, want)) {
            wrong++;
            System.out.println(promise + ": the row is " + Arrays.toString(got) + ", due is " + Arrays.toString(want));
        }
    }

    static boolean rowThrows(StrikeWhatCancels x, int i) {
        try {
            x.row(i);
            return false;
        } catch (NoSuchElementException e) {
            return true;
        }
    }

    static boolean ruleThrows(StrikeWhatCancels x, int i, int what) {
        try {
            x.rule(i, what);
            return false;
        } catch (NoSuchElementException e) {
            return true;
        }
    }

    static long code(String words) {
        long c = 0;
        for (char w : words.toCharArray()) {
            c = c * 9 + w - 'a' + 1;
        }
        return c;
    }

    static void text(StrikeWhatCancels x, String s) {
        for (int p = 0; p < s.length(); p += 4) {
            int v = 0;
            for (int k = p; k < p + 4; k++) {
                v = v << 8 | (k < s.length() ? s.charAt(k) : 0);
            }
            x.sign(v);
        }
        x.end(s.length());
    }

    static int book(StrikeWhatCancels x, String s) {
        text(x, s);
        return x.book();
    }

    static int speech(StrikeWhatCancels x, String s) {
        text(x, s);
        return x.speech();
    }

    static StrikeWhatCancels with(String rules) {
        StrikeWhatCancels x = new StrikeWhatCancels();
        due("book of " + rules, book(x, rules), rules.split(";").length);
        return x;
    }

    static StrikeWhatCancels with(String rules, String words) {
        StrikeWhatCancels x = with(rules);
        due("speech " + words, speech(x, words), words.length());
        return x;
    }

    static void leave() {
        System.out.println(wrong == 0 ? "as due" : wrong + " answers are not as due");
        if (wrong != 0) {
            System.exit(1);
        }
    }
}
