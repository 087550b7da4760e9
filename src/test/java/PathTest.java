/** Promises 28 to 30: the BEST PATH, errors, sums. */
final class PathTest {
    private static final Class<IllegalArgumentException> ARGUMENT = IllegalArgumentException.class;
    private static final Class<IllegalStateException> STATE = IllegalStateException.class;
    private static final Class<IndexOutOfBoundsException> INDEX = IndexOutOfBoundsException.class;

    public static void main(String[] args) {
        path();
        fewestFramesFirst();
        lowerSayingFirst();
        cheaperSaying();
        refused();
        errors();
        sums();
        Check.end();
    }

    private static void due(Latticehear x, int[][] told) {
        for (int frame = 0; frame < told.length; frame++) {
            for (int what = 0; what < 6; what++) {
                Check.same("path(" + frame + ", " + what + ")", x.path(frame, what), told[frame][what]);
            }
        }
    }

    private static void path() {
        Latticehear x = RowsTest.small();
        due(x, new int[][] {{0, 0, 0, 0, 0, 0}, {1, 1, 0, 0, 1, 0}, {1, 1, 0, 0, 1, 0}});
        x.question(1, Latticehear.LEFT, 1, 2);
        SoundsTest.type(x, "ab");
        x.saying(1, 0);
        x.factor(99);
        due(x, new int[][] {{0, 1, 1, 0, 0, 0}, {0, 1, 1, 1, 1, 1}, {0, 1, 1, 1, 1, 1}});
    }

    /** All FRAMES and SOUNDS are alike, so that nothing but the language tells one ROW from another one. */
    private static Latticehear alike() {
        Latticehear x = new Latticehear();
        for (int s = 0; s < 3; s++) {
            x.sound(s, 0, 0, 99);
        }
        for (int f = 0; f < 6; f++) {
            x.frame(1, 0, 0);
        }
        x.back(99999);
        return x;
    }

    private static void fewestFramesFirst() {
        Latticehear x = alike();
        SoundsTest.type(x, "c");
        x.word(0);
        SoundsTest.type(x, "abc");
        x.word(0);
        x.learn(21);
        Check.same("the best row", x.best(0), 21);
        due(x, new int[][] {{0, 1, 0, 0, 0, 0}, {0, 1, 0, 1, 1, 0}, {0, 1, 0, 2, 2, 0}, {1, 0, 0, 0, 2, 0},
            {1, 0, 0, 0, 2, 0}, {1, 0, 0, 0, 2, 0}});
        Latticehear y = alike();
        SoundsTest.type(y, "c");
        y.word(0);
        SoundsTest.type(y, "abc");
        y.word(0);
        y.learn(12);
        due(y, new int[][] {{0, 0, 0, 0, 2, 0}, {1, 1, 0, 0, 0, 0}, {1, 1, 0, 1, 1, 0}, {1, 1, 0, 2, 2, 0},
            {1, 1, 0, 2, 2, 0}, {1, 1, 0, 2, 2, 0}});
        Latticehear z = alike();
        for (int word = 0; word < 4; word++) {
            SoundsTest.type(z, word % 2 == 0 ? "b" : "c");
            z.word(0);
        }
        z.learn(1234);
        Check.same("the best row of four", z.best(0), 1234);
        due(z, new int[][] {{0, 0, 0, 0, 1, 0}, {1, 1, 0, 0, 2, 0}, {2, 2, 0, 0, 1, 0}, {3, 3, 0, 0, 2, 0},
            {3, 3, 0, 0, 2, 0}, {3, 3, 0, 0, 2, 0}});
    }

    private static void lowerSayingFirst() {
        Latticehear x = alike();
        SoundsTest.type(x, "ab");
        x.word(5);
        SoundsTest.type(x, "c");
        x.saying(0, 5);
        Check.same("of two as cheap", x.path(5, 2), 0);
        Check.same("its sound", x.path(5, 4), 1);
    }

    private static void cheaperSaying() {
        Latticehear x = alike();
        SoundsTest.type(x, "ab");
        x.word(6);
        SoundsTest.type(x, "c");
        x.saying(0, 5);
        Check.same("the cheaper one", x.path(5, 2), 1);
        Check.same("its sound", x.path(0, 4), 2);
        Latticehear y = alike();
        SoundsTest.type(y, "abca");
        y.word(0);
        SoundsTest.type(y, "b");
        y.saying(0, 9);
        y.silence();
        y.frame(0, 0, 0);
        Check.same("the only one that is short enough", y.path(0, 2), 1);
    }

    private static void refused() {
        Latticehear x = RowsTest.small();
        Check.fails("path(3, 6)", INDEX, () -> x.path(3, 6));
        Check.fails("path(-1, 0)", INDEX, () -> x.path(-1, 0));
        Check.fails("path(0, 6)", ARGUMENT, () -> x.path(0, 6));
        Check.fails("path(0, -1)", ARGUMENT, () -> x.path(0, -1));
        Latticehear y = new Latticehear();
        Check.fails("path without frames", INDEX, () -> y.path(0, 0));
        y.frame(0, 0, 0);
        Check.fails("path without a best row", STATE, () -> y.path(0, 5));
        Check.fails("path without a best row, out of range", ARGUMENT, () -> y.path(0, 6));
    }

    private static void errors() {
        Latticehear x = RowsTest.small();
        int[][] due = {{12, 0}, {1, 1}, {2, 1}, {11, 1}, {22, 1}, {21, 2}, {112, 1}, {212, 1}, {211, 2}, {222, 2},
            {1212, 2}, {2121, 2}, {2222, 3}, {2111, 3}, {1111, 3}};
        for (int[] one : due) {
            Check.same("errors(" + one[0] + ")", x.errors(one[0]), one[1]);
        }
        Check.fails("errors(3)", ARGUMENT, () -> x.errors(3));
        x.silence();
        Check.fails("errors without a best row", STATE, () -> x.errors(12));
        Check.fails("errors without a best row, of no row", ARGUMENT, () -> x.errors(13));
    }

    private static void sums() {
        Latticehear x = RowsTest.small();
        x.learn(2211);
        x.type('f');
        x.speak(3);
        x.back(1);
        x.factor(2);
        int[] due = {3, 2, 2, 5, 1, 3, 1, 2, 14};
        for (int what = 0; what < due.length; what++) {
            Check.same("sum(" + what + ")", x.sum(what), due[what]);
        }
        Check.fails("sum(9)", ARGUMENT, () -> x.sum(9));
        Check.fails("sum(-1)", ARGUMENT, () -> x.sum(-1));
        Check.fails("sum(least)", ARGUMENT, () -> x.sum(Integer.MIN_VALUE));
    }
}
