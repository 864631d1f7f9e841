import java.util.Random;

/**
 * Calls whose answers hang on one another, under drawn RULES: what one tells must fit what another one
 * tells. java CrossTest [runs [seed]].
 */
public final class CrossTest {
    private static final int[] MOST = {0, 14, 8, 5, 4, 3, 3, 3, 3};
    private final Random random;
    private final StrikeWhatCancels x = new StrikeWhatCancels();
    private int letters = 0;
    private int calls = 0;

    private CrossTest(long seed) {
        random = new Random(seed);
    }

    public static void main(String[] args) {
        int runs = args.length > 0 ? Integer.parseInt(args[0]) : 300;
        long seed = args.length > 1 ? Long.parseLong(args[1]) : 1;
        for (int k = 0; k < runs; k++) {
            Calls.of("drawn " + (seed + k));
            new CrossTest(seed + k).all();
        }
        Calls.leave();
    }

    private String words(int n) {
        StringBuilder s = new StringBuilder();
        for (int k = 0; k < n; k++) {
            s.append((char) ('a' + random.nextInt(letters)));
        }
        return s.toString();
    }

    private void all() {
        letters = 1 + random.nextInt(random.nextBoolean() ? 3 : 8);
        x.wide(letters);
        for (int k = random.nextInt(9); k > 0; k--) {
            String l = words(1 + random.nextInt(4));
            String r = words(random.nextInt(l.length() + 1));
            Calls.book(x, Plain.ahead(r, l) ? l + ">" + r : l + ">");
        }
        long speech = Calls.code(words(random.nextInt(9)));
        x.speak(speech);
        net(speech);
        clerks(speech);
        overlaps();
        lessens();
        between(speech);
        same(speech);
        for (int clerk = 0; clerk < 3; clerk++) {
            back(clerk, random.nextInt(MOST[letters] + 1));
        }
        quarrels(random.nextInt(MOST[letters] + 1));
    }

    /** net tells how many are DONE, done tells them, and a way and ways lead to each. */
    private void net(long speech) {
        long size = x.net();
        if (size < 0) {
            Calls.due("done", x.done(0), -3);
            return;
        }
        long ends = x.row(0);
        long fewest = x.row(2);
        Calls.due("the most are no fewer than the fewest", x.row(1) >= fewest, true);
        Calls.due("one more is not there", x.done((int) ends), -2);
        long sum = 0;
        long near = Long.MAX_VALUE;
        long last = -1;
        long told = -1;
        for (int k = 0; k < ends && k < 20; k++) {
            long s = x.done(k);
            Calls.due("the one AHEAD first", s > last, true);
            last = s;
            near = Math.min(near, x.way(s));
            sum += x.ways(s);
            told = x.row(0);
            Calls.due("both LEAD to it", x.meet(speech, s), 1);
            Calls.row(x, s);
        }
        if (ends <= 20) {
            Calls.due("ways to all together", sum, told);
            Calls.due("the fewest STRIKES", near, fewest);
        }
        Calls.due("to itself", x.way(speech), 0);
        Calls.due("to itself", x.ways(speech), 1);
        Calls.due("to itself", x.meet(speech, speech), 1);
    }

    /** What clerks tells is what run leaves, and it is DONE. */
    private void clerks(long speech) {
        long[] left = new long[6];
        x.clerks();
        for (int k = 0; k < 6; k++) {
            left[k] = x.row(k);
        }
        for (int clerk = 0; clerk < 3; clerk++) {
            x.anew();
            long often = x.run(clerk, 500);
            if (left[3 + clerk] <= 500) {
                Calls.due("STRIKES", often, left[3 + clerk]);
                Calls.due("left", x.minutes(), left[clerk]);
                Calls.due("DONE", x.strike(3), -2);
            }
            Calls.due("can", x.can() == 0, left[3 + clerk] <= 500);
            Calls.due("speech", x.anew(), speech);
        }
    }

    /** overlaps counts what overlap tells; where all MEET nothing need be added. */
    private void overlaps() {
        long n = x.overlaps();
        if (n < 0) {
            return;
        }
        long apart = x.row(0);
        long first = x.row(1);
        long counted = 0;
        long firstCounted = -1;
        for (int k = 0; k < n && k < 60; k++) {
            long meets = x.overlap(k);
            long one = x.row(4);
            long other = x.row(5);
            Calls.due("meet", x.meet(one, other), meets);
            firstCounted = meets == 0 && counted == 0 ? k : firstCounted;
            counted += 1 - meets;
        }
        if (n <= 60) {
            Calls.due("not so many", x.overlap((int) n), -2);
            Calls.due("that do not MEET", counted, apart);
            Calls.due("the first of them", firstCounted, first);
        }
        if (apart == 0) {
            Calls.due("complete(0)", x.complete(0), 0);
        }
    }

    /** By the WEIGHTS that weights tells each RULE makes less. */
    private void lessens() {
        boolean is = x.weights() == 1;
        Calls.due("numbers", x.count(5), is ? 8 : 0);
        for (int w = 0; is && w < 8; w++) {
            x.weigh(w, (int) x.row(w));
        }
        if (is) {
            Calls.due("lessens", x.lessens(), 1);
            Calls.due("by how much", x.count(0) == 0 || x.rule((int) x.row(0), 2) == x.row(1) && x.row(1) > 0, true);
        } else {
            Calls.due("lessens", x.lessens(), 0);
        }
    }

    /** A way there is as long as a way back, and no longer than one by STRIKES alone. */
    private void between(long speech) {
        x.clerks();
        long left = x.row(0);
        int there = x.between(speech, left, 8);
        int back = x.between(left, speech, 8);
        if (there >= 0 && back >= 0) {
            Calls.due("back", back, there);
            Calls.due("the last of the row", there == 0 || there > 8 || x.row(there - 1) == speech, true);
            int way = x.way(left);
            Calls.due("no longer than by STRIKES alone", way < 0 || there <= way, true);
        }
        Calls.due("-2 for neither", there == -2 || back == -2, false);
    }

    /** What a CLERK leaves comes to one with what it was, by RULES of which all OVERLAPS come to one. */
    private void same(long speech) {
        x.clerks();
        long[] left = {x.row(0), x.row(1), x.row(2)};
        boolean done = x.complete(12) >= 0;
        for (long s : left) {
            int same = x.same(speech, s);
            Calls.due("same", same == 1 || !done && same == -2, true);
            Calls.due("the row", x.count(5), 2);
            Calls.due("alike", x.row(0) == x.row(1), same == 1);
        }
    }

    /** What sorts, come, longest and still tell of the same SAYINGS. */
    private void back(int clerk, int n) {
        long all = Math.round(Math.pow(letters, n));
        int most = x.longest(clerk, n);
        long first = x.row(0);
        long still = x.row(1);
        Calls.due("still", x.still(n), still);
        x.speak(first);
        x.clerks();
        Calls.due("STRIKES", x.row(3 + clerk), most);
        long left = x.row(clerk);
        Calls.due("that come there", x.come(clerk, n, left) > 0, true);
        Calls.due("the first of them", x.row(0) <= first, true);
        int sorts = x.sorts(clerk, n);
        long goal = x.row(0);
        long many = x.row(1);
        Calls.due("sorts", sorts >= 1 && sorts + many <= all + 1 && (long) sorts * many >= all, true);
        Calls.due("come", x.come(clerk, n, goal), many);
        int shortest = x.shortest(clerk, goal);
        if (shortest > 0) {
            x.speak(x.row(0));
            Calls.due("WORDS", x.count(2), shortest);
            x.clerks();
            Calls.due("comes there", x.row(clerk), goal);
        }
    }

    private void quarrels(int n) {
        int quarrels = x.quarrels(n);
        if (quarrels > 0) {
            x.speak(x.row(0));
            x.clerks();
            Calls.due("unlike", x.row(0) != x.row(1), true);
        } else {
            Calls.due("alike", x.sorts(0, n), x.sorts(1, n));
        }
    }
}
