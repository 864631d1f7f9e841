import java.io.IOException;
import java.nio.charset.StandardCharsets;
import java.nio.file.Files;
import java.nio.file.Path;
import java.util.List;

/** The run of calls that README.md shows: the answers are due, and README.md shows these very lines. */
public final class ReadmeTest {
    private static final String HERE = "src/test/java/ReadmeTest.java";

    public static void main(String[] args) throws IOException {
        Calls.of("README.md");
        run();
        compare();
        Calls.leave();
    }

    private static void due(long got, long want) {
        Calls.due("a call", got, want);
    }

    private static void due(boolean got, boolean want) {
        Calls.due("a call", got, want);
    }

    private static void run() {
        // README.md from here on
        StrikeWhatCancels x = new StrikeWhatCancels();
        // Rules are told as a text, four signs a call, the highest byte first.
        due(x.sign(0x61623E3B), 4);            // "ab>;"
        due(x.sign(0x62613E00), 8);            // "ba>" and one sign too many
        due(x.end(7), true);                   // "ab>;ba>": ab is struck, and so is ba
        due(x.book(), 2);                      // two lines, so two rules
        due(x.rule(1, 0), 19);                 // the code of ba with base 9: 2 * 9 + 1

        // The speech is abab; the clerk who looks from the left strikes once.
        due(x.speak(902), 4);
        due(x.strike(0), 0);                   // by rule 0,
        due(x.row(0), 0);                      // at place 0,
        due(x.row(1), 11);                     // and ab is left
        due(x.undo(), 0);                      // undone: nothing more can be

        // All that can come of it: abab, ab and no words.
        due(x.net(), 3);
        due(x.row(0), 1);                      // nothing can be struck in one of them,
        due(x.row(1), 2);                      // after two strikes at the most
        due(x.ways(0), 3);                     // in three ways
        due(x.way(19), -2);                    // it never comes to ba
        due(x.way(9), StrikeWhatCancels.NONE); // refused: 9 has a nought in it with base 9

        // The overlaps aba and bab: what is left is the same, whichever rule strikes.
        due(x.overlaps(), 2);
        due(x.row(0), 0);                      // all of them meet,
        due(x.complete(12), 0);                // so no rule need be added
        due(x.same(11, 0), 1);                 // ab and no words come to one

        // Speeches of two words a .. b: which come to no words, and in which nothing can be struck.
        due(x.wide(2), 3);                     // WIDE was 3
        due(x.come(0, 2, 0), 2);
        due(x.row(0), 11);                     // ab is the first of them
        due(x.still(2), 2);                    // aa and bb
        // README.md up to here
    }

    /** The lines between the two marks stand in README.md, one behind the other. */
    private static void compare() throws IOException {
        List<String> test = Files.readAllLines(Path.of(HERE), StandardCharsets.UTF_8);
        StringBuilder shown = new StringBuilder("```java\n");
        int from = test.indexOf("        // README.md from here on") + 1;
        int to = test.indexOf("        // README.md up to here");
        Calls.due("lines of the run", from > 0 && to - from > 20, true);
        for (int k = from; k < to; k++) {
            String line = test.get(k);
            shown.append(line.isEmpty() ? "" : line.substring(8)).append('\n');
        }
        shown.append("```\n");
        String readme = Files.readString(Path.of("README.md"), StandardCharsets.UTF_8);
        Calls.due("README.md shows the run of " + HERE, readme.contains(shown), true);
    }
}
