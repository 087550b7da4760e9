/** The sentences of promises 20 to 22: the WEIGHTS of ROWS, and their order. */
final class EdgesOfRows {
    private EdgesOfRows() {
    }

    static void run() {
        Sentence.holds(20, "- `row`: its number", () -> lowestAndHighest(x -> x::weight));
        Sentence.holds(20, "Returns the WEIGHT; NONE without.", () -> withAndWithout(x -> x::weight));
        Sentence.holds(20, "Throws `IllegalArgumentException` if row is no number of a ROW of WORDS that there are",
            () -> EdgesOfLanguage.rowsOfWordsThatThereAre("weight", x -> x::weight));
        Sentence.holds(21, "Returns the same, found by trying all ways to give each SOUND of each SAYING its FRAMES.", EdgesOfRows::same);
        Sentence.holds(21, "- `row`: its number", () -> lowestAndHighest(x -> x::weightAnew));
        Sentence.holds(21, "Returns the WEIGHT; NONE without.", () -> withAndWithout(x -> x::weightAnew));
        Sentence.holds(21, "Throws `IllegalArgumentException` if row is no number of a ROW of WORDS that there are",
            () -> EdgesOfLanguage.rowsOfWordsThatThereAre("weightAnew", x -> x::weightAnew));
        best();
    }

    private interface Weigher extends java.util.function.Function<Latticehear, Edge.Open> {
    }

    /** The WORDS take 1, 2, 3, 4 and 5 for each of the 16 FRAMES. */
    private static Latticehear five() {
        Latticehear x = new Latticehear();
        int[][] centres = {{1, 0, 0}, {1, 1, 0}, {1, 1, 1}, {2, 0, 0}, {2, 1, 0}};
        for (int[] one : centres) {
            x.sound(one[0], one[1], one[2], 1);
            Edge.word(x, "abcde".substring(x.sum(2), x.sum(2) + 1), 0);
        }
        Edge.hear(x, new int[16]);
        x.factor(0);
        return x;
    }

    private static void lowestAndHighest(Weigher of) {
        Edge.Open weight = of.apply(five());
        int[][] due = {{1, 16}, {5, 80}, {11, 16}, {55, 80}, {15, 20}, {51, 20}, {111, 16}, {555, 80}, {1111, 16}, {5555, 80}, {2345, 38}};
        for (int[] one : due) {
            Check.same("the weight of " + one[0], weight.with(one[0]), one[1]);
        }
    }

    private static void withAndWithout(Weigher of) {
        Latticehear x = Edge.sounds(1);
        Edge.word(x, "aa", 7);
        x.factor(0);
        Edge.Open weight = of.apply(x);
        Check.same("without frames", weight.with(1), -1);
        for (int frames = 1; frames <= 9; frames++) {
            x.frame(1, 0, 0);
            for (int words = 1; words <= 4; words++) {
                int row = Integer.parseInt("1111".substring(0, words));
                Check.same(row + " over " + frames, weight.with(row), frames < 2 * words ? -1 : 7 * words + frames);
            }
        }
    }

    private static void same() {
        for (Latticehear x : new Latticehear[] {Edge.full(), five(), Edge.small(), Edge.alike(5, 16), Edge.alike(3, 0)}) {
            int words = x.sum(2);
            for (int row : new int[] {1, words, 11 * words, 12, 111 * words, 121, 1111 * words, 1212, 2111}) {
                Check.same("weightAnew(" + row + ")", x.weightAnew(row), x.weight(row));
            }
        }
    }

    // ---- promise 22

    private static void best() {
        Sentence.holds(22, "- `place`: 0 or more: 0 for the BEST ROW", () -> {
            Latticehear x = Edge.alike(5, 16);
            x.factor(0);
            Check.same("the first one", x.best(0), 1);
            Check.same("the second one", x.best(1), 2);
            Check.same("the first one of two words", x.best(5), 11);
            Check.same("the first one of three", x.best(30), 111);
            Check.same("the first one of four", x.best(155), 1111);
            Check.same("the last one but one", x.best(778), 5554);
            Check.same("the last one", x.best(779), 5555);
        });
        Sentence.holds(22, "Returns its number; NONE if there are not so many with a WEIGHT.", () -> {
            Latticehear x = Edge.alike(5, 0);
            int[] counts = {0, 5, 30, 155, 780, 780};
            int[] last = {-1, 5, 55, 555, 5555, 5555};
            for (int frames = 0; frames <= 5; frames++) {
                int count = counts[frames];
                Check.same("the last one over " + frames, x.best(Math.max(0, count - 1)), last[frames]);
                Check.same("the one behind it", x.best(count), -1);
                Check.same("the greatest place", x.best(Edge.GREATEST), -1);
                x.frame(0, 0, 0);
            }
            Check.same("without words", new Latticehear().best(0), -1);
        });
        Sentence.holds(22, "Throws `IllegalArgumentException` if place is below 0", () -> {
            Latticehear x = Edge.alike(1, 1);
            Edge.refused(Edge.ARGUMENT, "best", x::best, -1, -2, Edge.LEAST);
            Edge.refused(Edge.ARGUMENT, "best of none", new Latticehear()::best, -1, Edge.LEAST);
            Check.same("the best row", x.best(0), 1);
        });
    }
}
