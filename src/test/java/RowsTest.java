/** Promises 20 to 22: the WEIGHTS of ROWS, and their order. */
final class RowsTest {
    private static final Class<IllegalArgumentException> ARGUMENT = IllegalArgumentException.class;
    private static final int[] ORDER = {12, 122, 2, 22, 112, 121, 222, 1, 11, 21, 111, 212, 221, 211};
    private static final long[] WEIGHTS = {0, 0, 100, 100, 100, 100, 100, 200, 200, 200, 200, 200, 200, 300};

    public static void main(String[] args) {
        weights();
        weightsWithPrices();
        order();
        withoutWeights();
        whatChangesThem();
        manyFrames();
        Check.end();
    }

    /** The WORDS a and b, at 0 and at 10, over FRAMES at 0, 10 and 10, without PRICES. */
    static Latticehear small() {
        Latticehear x = new Latticehear();
        x.sound(0, 0, 0, 1);
        x.sound(10, 0, 0, 1);
        x.type('a');
        x.word(0);
        x.type('b');
        x.word(0);
        x.frame(0, 0, 0);
        x.frame(10, 0, 0);
        x.frame(10, 0, 0);
        x.factor(0);
        return x;
    }

    private static void weights() {
        Latticehear x = small();
        for (int i = 0; i < ORDER.length; i++) {
            Check.same("weight(" + ORDER[i] + ")", x.weight(ORDER[i]), WEIGHTS[i]);
            Check.same("weightAnew(" + ORDER[i] + ")", x.weightAnew(ORDER[i]), WEIGHTS[i]);
        }
        for (int longer : new int[] {1111, 1222, 2222}) {
            Check.same("weight(" + longer + ")", x.weight(longer), Latticehear.NONE);
            Check.same("weightAnew(" + longer + ")", x.weightAnew(longer), Latticehear.NONE);
        }
        Check.fails("weight(3)", ARGUMENT, () -> x.weight(3));
        Check.fails("weightAnew(3)", ARGUMENT, () -> x.weightAnew(3));
        Check.fails("weight(0)", ARGUMENT, () -> x.weight(0));
        Check.fails("weightAnew(0)", ARGUMENT, () -> x.weightAnew(0));
    }

    private static void weightsWithPrices() {
        Latticehear x = small();
        x.learn(12);
        x.factor(2);
        long[][] due = {{12, 0}, {1, 200 + 2 * 2200}, {2, 100 + 2 * 2200}, {21, 200 + 2 * (3 * 2200)}};
        Check.same("price of the start and b", x.price(-1, 1), 500 + 100 * (25 - 8));
        Check.same("price of b and a", x.price(1, 0), 2200);
        Check.same("price of a and the end", x.price(0, -1), 2200);
        for (long[] row : due) {
            Check.same("weight(" + row[0] + ")", x.weight((int) row[0]), row[1]);
            Check.same("weightAnew(" + row[0] + ")", x.weightAnew((int) row[0]), row[1]);
        }
    }

    private static void order() {
        Latticehear x = small();
        for (int place = 0; place < ORDER.length; place++) {
            Check.same("best(" + place + ")", x.best(place), ORDER[place]);
        }
        Check.same("rows with a weight", x.sum(8), ORDER.length);
        Check.same("best(14)", x.best(14), Latticehear.NONE);
        Check.same("best(greatest)", x.best(Integer.MAX_VALUE), Latticehear.NONE);
        Check.fails("best(-1)", ARGUMENT, () -> x.best(-1));
        Check.fails("best(least)", ARGUMENT, () -> x.best(Integer.MIN_VALUE));
    }

    private static void withoutWeights() {
        Latticehear x = small();
        x.silence();
        Check.same("weight without frames", x.weight(1), Latticehear.NONE);
        Check.same("weightAnew without frames", x.weightAnew(1), Latticehear.NONE);
        Check.same("best without frames", x.best(0), Latticehear.NONE);
        Check.same("rows with a weight", x.sum(8), 0);
        Latticehear y = new Latticehear();
        y.frame(0, 0, 0);
        Check.same("best without words", y.best(0), Latticehear.NONE);
        Check.fails("weight without words", ARGUMENT, () -> y.weight(1));
    }

    private static void whatChangesThem() {
        Latticehear x = small();
        Check.same("at first", x.best(0), 12);
        x.factor(1);
        Check.same("behind factor", x.best(0), 2);
        x.learn(12);
        Check.same("behind learn", x.best(0), 12);
        x.learn(1);
        x.learn(1);
        Check.same("behind more", x.weight(12), 100 * (12 - 0));
        Check.same("the other row", x.weight(1), 200 + 100 * (12 - 8));
        x.shift(0, 0, 10);
        Check.same("behind shift", x.weight(1), 100 + 400);
        x.speak(1);
        Check.same("behind speak", x.weight(1), 200 + 400);
        x.frame(5, 0, 0);
        Check.same("behind frame", x.weight(1), 225 + 400);
        x.type('b');
        x.saying(0, 0);
        Check.same("behind saying", x.weight(1), 125 + 400);
        x.question(1, Latticehear.RIGHT, 1, 5);
        Check.same("behind a question of no use", x.weight(1), 125 + 400);
        x.type('b');
        x.type('a');
        Check.same("letters change none", x.sum(8), 2 + 4 + 8 + 16);
        x.word(0);
        Check.same("behind word", x.sum(8), 3 + 9 + 20 + 16);
        x.silence();
        Check.same("behind silence", x.sum(8), 0);
    }

    private static void manyFrames() {
        Latticehear x = new Latticehear();
        for (int s = 0; s < 6; s++) {
            x.sound(s * 7 - 20, s * s, 13 - s, 1 + s);
        }
        String[] sayings = {"abcd", "ef", "dcba", "fedc", "ace", "bdf", "fffa", "b", "cc", "ea"};
        for (int i = 0; i < sayings.length; i++) {
            SoundsTest.type(x, sayings[i]);
            if (i % 2 == 0) {
                x.word(i);
            } else {
                x.saying(i / 2, 2 * i);
            }
        }
        for (int f = 0; f < 16; f++) {
            x.frame(f * f * 5 % 37 - 20, f * 11 % 29, f * 3 % 17);
        }
        Check.same("all rows have a weight", x.sum(8), 780);
        long before = -1;
        for (int place = 0; place < 780; place += 7) {
            int row = x.best(place);
            long weight = x.weight(row);
            Check.that("the order rises at " + place, before <= weight);
            Check.same("weightAnew(" + row + ")", x.weightAnew(row), weight);
            before = weight;
        }
        Check.same("behind the last one", x.best(780), Latticehear.NONE);
    }
}
