/** The sentences of promises 28 to 30: the BEST PATH, errors, sums. */
final class EdgesOfPath {
    private EdgesOfPath() {
    }

    static void run() {
        path();
        errors();
        sum();
    }

    /** The BEST ROW has as many WORDS as it is told, each of them dear in all ROWS but this one. */
    private static Latticehear led(int row, int words, int frames) {
        Latticehear x = Edge.alike(words, frames);
        x.back(99999);
        x.learn(row);
        Check.same("the best row", x.best(0), row);
        return x;
    }

    // ---- promise 28

    private static void path() {
        Sentence.holds(28, "- `frame`: a FRAME", () -> {
            Latticehear x = led(1234, 4, 16);
            for (int frame = 0; frame < 16; frame++) {
                Check.same("path(" + frame + ", 1)", x.path(frame, 1), Math.min(3, frame));
            }
        });
        Sentence.holds(28, "- `what`: 0 the place in the ROW of the WORD that has it; 1 that WORD; 2 its SAYING; 3 the place in this of the "
            + "SOUND that has it; 4 that SOUND; 5 its FORM", EdgesOfPath::toldOfAFrame);
        Sentence.holds(28, "Returns as told.", EdgesOfPath::theFarthestOfAll);
        Sentence.holds(28, "Throws `IndexOutOfBoundsException` if there is no such FRAME", () -> {
            for (int frames = 0; frames <= 16; frames += 4) {
                Latticehear x = Edge.alike(1, frames);
                Edge.refused(Edge.INDEX, "frame of " + frames, n -> x.path(n, 0), frames, 16, 17, -1, Edge.LEAST, Edge.GREATEST);
            }
        });
        Sentence.holds(28, "Throws `IllegalArgumentException` if what is out of range", () -> {
            Latticehear x = Edge.alike(1, 1);
            Edge.refused(Edge.ARGUMENT, "what", n -> x.path(0, n), -1, 6, Edge.LEAST, Edge.GREATEST);
        });
        Sentence.holds(28, "Throws `IllegalStateException` if there is no BEST ROW", () -> {
            Latticehear x = Edge.alike(0, 1);
            Check.fails("without words", Edge.STATE, () -> x.path(0, 0));
            Edge.word(x, "aa", 0);
            Check.fails("with too few frames", Edge.STATE, () -> x.path(0, 5));
            x.frame(0, 0, 0);
            Check.same("with just enough", x.path(1, 3), 1);
        });
    }

    private static void due(Latticehear x, int frame, int... told) {
        for (int what = 0; what < 6; what++) {
            Check.same("path(" + frame + ", " + what + ")", x.path(frame, what), told[what]);
        }
    }

    private static void toldOfAFrame() {
        Latticehear x = new Latticehear();
        x.sound(0, 0, 0, 1);
        x.sound(10, 0, 0, 1);
        x.question(1, Latticehear.RIGHT, 1, 5);
        x.question(1, Latticehear.LEFT, 1, 2);
        Edge.word(x, "b", 0);
        Edge.word(x, "aa", 50);
        Edge.saying(x, 1, "ab", 1);
        x.learn(12);
        x.back(99999);
        Edge.hear(x, 10, 0, 12);
        due(x, 0, 0, 0, 0, 0, 1, 0);
        due(x, 1, 1, 1, 1, 0, 0, 0);
        due(x, 2, 1, 1, 1, 1, 1, 2);
        Latticehear y = Edge.small();
        y.sound(20, 0, 0, 1);
        Edge.word(y, "abc", 0);
        y.learn(3);
        y.factor(9);
        y.silence();
        int[] places = {0, 0, 0, 1, 1, 2, 2, 2};
        for (int place : places) {
            y.frame(10 * place + 1, 0, 0);
        }
        for (int frame = 0; frame < places.length; frame++) {
            due(y, frame, 0, 2, 0, places[frame], places[frame], 0);
        }
    }

    /** The last of all: the 4th WORD, the WORD 4, the second SAYING, the 4th place in it, the SOUND f, the FORM 3. */
    private static void theFarthestOfAll() {
        Latticehear x = Edge.sounds(6);
        for (int q = 0; q < 3; q++) {
            x.question(5, Latticehear.LEFT, q == 2 ? 32 : 0, 0);
        }
        for (int word = 0; word < 5; word++) {
            Edge.word(x, "ffff", 9);
            Edge.saying(x, word, "ffff", 8);
        }
        x.learn(1235);
        x.back(99999);
        Edge.hear(x, new int[16]);
        due(x, 0, 0, 0, 1, 0, 5, 0);
        due(x, 1, 0, 0, 1, 1, 5, 3);
        due(x, 15, 3, 4, 1, 3, 5, 3);
    }

    // ---- promise 29

    private static void errors() {
        Sentence.holds(29, "- `row`: its number", () -> {
            Latticehear x = led(3, 5, 4);
            int[][] due = {{1, 1}, {3, 0}, {5, 1}, {11, 2}, {55, 2}, {31, 1}, {53, 1}, {1111, 4}, {5555, 4}, {3333, 3}};
            for (int[] one : due) {
                Check.same("errors(" + one[0] + ")", x.errors(one[0]), one[1]);
            }
        });
        Sentence.holds(29, "Returns how many.", () -> {
            Latticehear x = led(1234, 5, 4);
            int[][] due = {{1234, 0}, {123, 1}, {234, 1}, {1534, 1}, {134, 1}, {2341, 2}, {34, 2}, {14, 2}, {2143, 3}, {4, 3}, {1, 3}, {5, 4},
                {51, 4}, {4321, 4}, {5555, 4}, {55, 4}, {3412, 4}};
            for (int[] one : due) {
                Check.same("errors(" + one[0] + ")", x.errors(one[0]), one[1]);
            }
        });
        Sentence.holds(29, "Throws `IllegalArgumentException` if row is no number of a ROW of WORDS that there are",
            () -> EdgesOfLanguage.rowsOfWordsThatThereAre("errors", x -> x::errors));
        Sentence.holds(29, "Throws `IllegalStateException` if there is no BEST ROW", () -> {
            Latticehear x = Edge.sounds(1);
            Edge.word(x, "aa", 0);
            Check.fails("without frames", Edge.STATE, () -> x.errors(1));
            x.frame(0, 0, 0);
            Check.fails("with too few", Edge.STATE, () -> x.errors(1111));
            x.frame(0, 0, 0);
            Check.same("with just enough", x.errors(1), 0);
            Check.same("of a row without a weight", x.errors(1111), 3);
        });
    }

    // ---- promise 30

    private static void sum() {
        Sentence.holds(30, "- `what`: 0 FRAMES; 1 SOUNDS; 2 WORDS; 3 pairs that were counted; 4 letters of THE TEXT; 5 the SPEAKER who "
            + "speaks; 6 the BACK; 7 the FACTOR; 8 ROWS with a WEIGHT", () -> {
                Latticehear x = Edge.full();
                x.learn(5555);
                x.learn(1);
                x.speak(3);
                x.back(99999);
                x.factor(99);
                sums(x, 16, 6, 5, 7, 4, 3, 99999, 99, 780);
            });
        Sentence.holds(30, "Returns the sum.", () -> {
            Latticehear x = new Latticehear();
            sums(x, 0, 0, 0, 0, 0, 0, 500, 1, 0);
            x.back(0);
            x.factor(0);
            sums(x, 0, 0, 0, 0, 0, 0, 0, 0, 0);
            int[] counts = {0, 5, 30, 155, 780, 780};
            for (int frames = 0; frames <= 5; frames++) {
                Check.same("rows over " + frames, Edge.alike(5, frames).sum(8), counts[frames]);
            }
        });
        Sentence.holds(30, "Throws `IllegalArgumentException` if what is out of range", () -> {
            Latticehear x = new Latticehear();
            Edge.refused(Edge.ARGUMENT, "sum", x::sum, -1, 9, 10, Edge.LEAST, Edge.GREATEST);
        });
    }

    private static void sums(Latticehear x, int... due) {
        for (int what = 0; what < due.length; what++) {
            Check.same("sum(" + what + ")", x.sum(what), due[what]);
        }
    }
}
