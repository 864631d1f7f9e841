import java.lang.reflect.InvocationTargetException;
import java.lang.reflect.Method;
import java.util.Arrays;
import java.util.Comparator;
import java.util.function.Consumer;
import java.util.function.Supplier;
import java.util.function.ToLongFunction;

/** What the tests of the document's boundaries share: each is named after its promise, and bears its words. */
final class Edge {
    /** With these RULES fdeee leads to 3000 SAYINGS: 6 times 4 times 5 times 5 times 5. */
    static final String SEVEN = "g>f;f>e;e>d;d>c;c>b;b>a";
    private static final String[] KEPT = {"first", "second", "third"};

    private Edge() {
    }

    /** Calls each method of a class that bears words of the document. */
    static void all(Class<?> tests) {
        Method[] methods = tests.getDeclaredMethods();
        Arrays.sort(methods, Comparator.comparing(Method::getName));
        int run = 0;
        for (Method m : methods) {
            Says says = m.getAnnotation(Says.class);
            if (says != null) {
                Calls.of(m.getName() + " (\"" + says.value() + "\")");
                invoke(m);
                run++;
            }
        }
        Calls.due("methods of " + tests + " that bear the document's words", run > 0, true);
        System.out.print(run + " boundaries, ");
        Calls.leave();
    }

    private static void invoke(Method m) {
        try {
            m.setAccessible(true);
            m.invoke(null);
        } catch (InvocationTargetException e) {
            e.getCause().printStackTrace();
            Calls.due("a call that throws", 1, 0);
        } catch (IllegalAccessException e) {
            throw new IllegalStateException(e);
        }
    }

    /** An object in the middle of its work: nothing about it is as it is at first. */
    static StrikeWhatCancels busy() {
        StrikeWhatCancels x = Calls.with("ba>ab;cc>;db>c;a=2;h=9", "cbadbba");
        x.wide(4);
        x.seed(77);
        x.weigh(1, 6);
        x.strike(0);
        x.keep(1);
        Calls.due("a speech with three strikes", Calls.speech(x, "dbbaaccd"), 8);
        x.weigh(2, 3);
        x.run(1, 3);
        x.seed(-5);
        x.wide(5);
        x.can();
        Calls.text(x, "gf>h;e=4;c>");
        return x;
    }

    /** A call answers as is due, and changes nothing at all. */
    static void stays(String what, ToLongFunction<StrikeWhatCancels> call, long due) {
        stays(what, Edge::busy, call, due);
    }

    static void stays(String what, Supplier<StrikeWhatCancels> made, ToLongFunction<StrikeWhatCancels> call, long due) {
        alike(what, made, call, due, x -> { });
    }

    /** A call answers as is due, and changes what another change does, and nothing else. */
    static void alike(String what, Supplier<StrikeWhatCancels> made, ToLongFunction<StrikeWhatCancels> call, long due,
            Consumer<StrikeWhatCancels> change) {
        StrikeWhatCancels x = made.get();
        StrikeWhatCancels y = made.get();
        Calls.due(what, call.applyAsLong(x), due);
        change.accept(y);
        Calls.due("all that can be asked behind " + what, all(x), all(y));
    }

    /** A call answers as is due and tells a ROW, and changes nothing else. */
    static void asks(String what, Supplier<StrikeWhatCancels> made, ToLongFunction<StrikeWhatCancels> call, long due,
            long... row) {
        StrikeWhatCancels x = made.get();
        Calls.due(what, call.applyAsLong(x), due);
        Calls.due("the ROW of " + what, rowOf(x), Arrays.toString(row));
        Calls.due("all but the ROW behind " + what, allButTheRow(x), allButTheRow(made.get()));
    }

    static void asks(String what, ToLongFunction<StrikeWhatCancels> call, long due, long... row) {
        asks(what, Edge::busy, call, due, row);
    }

    static String all(StrikeWhatCancels x) {
        return "row " + rowOf(x) + allButTheRow(x);
    }

    /** What can be asked of an object; nothing is left as it was, and up to some 400 calls are used. */
    private static String allButTheRow(StrikeWhatCancels x) {
        StringBuilder s = new StringBuilder();
        s.append(" counts");
        for (int what : new int[] {0, 1, 2, 3, 4, 6}) {
            s.append(' ').append(x.count(what));
        }
        s.append(" minutes ").append(x.minutes());
        s.append(" rules ").append(rulesOf(x));
        s.append(" weights ").append(weightsOf(x));
        s.append(" R ").append(x.seed(0)).append(" WIDE ").append(x.wide(1));
        s.append(" undo");
        for (int left = x.undo(); left >= 0; left = x.undo()) {
            s.append(' ').append(left).append(':').append(x.minutes());
        }
        s.append(" speech ").append(x.anew());
        s.append(" text ").append(x.book()).append(rulesOf(x)).append(weightsOf(x));
        for (int i = 0; i < KEPT.length; i++) {
            s.append(' ').append(KEPT[i]).append(' ').append(x.again(i) ? deskOf(x) : "none");
        }
        return s.toString();
    }

    private static String deskOf(StrikeWhatCancels x) {
        return x.minutes() + " " + x.anew() + " " + weightsOf(x) + " " + x.seed(0) + " " + x.wide(1);
    }

    static String rowOf(StrikeWhatCancels x) {
        long[] row = new long[x.count(5)];
        for (int k = 0; k < row.length; k++) {
            row[k] = x.row(k);
        }
        return Arrays.toString(row);
    }

    static String rulesOf(StrikeWhatCancels x) {
        StringBuilder s = new StringBuilder();
        for (int i = 0; i < x.count(0); i++) {
            s.append(i == 0 ? "" : " ").append(x.rule(i, 0)).append('>').append(x.rule(i, 1));
        }
        return s.toString();
    }

    /** The eight WEIGHTS, which are all put to 1. */
    static String weightsOf(StrikeWhatCancels x) {
        StringBuilder s = new StringBuilder();
        for (int w = 0; w < 8; w++) {
            s.append(x.weigh(w, 1));
        }
        return s.toString();
    }
}
