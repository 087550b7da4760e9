/** Promises 16 to 19: language. */
final class LanguageTest {
    private static final Class<IllegalArgumentException> ARGUMENT = IllegalArgumentException.class;
    private static final Class<IndexOutOfBoundsException> INDEX = IndexOutOfBoundsException.class;
    private static final int NONE = Latticehear.NONE;

    public static void main(String[] args) {
        learning();
        numbersOfRows();
        settings();
        prices();
        manyPairs();
        Check.end();
    }

    private static Latticehear withWords(int count) {
        Latticehear x = new Latticehear();
        x.sound(0, 0, 0, 1);
        for (int word = 0; word < count; word++) {
            x.type('a');
            x.word(0);
        }
        return x;
    }

    private static void learning() {
        Latticehear x = withWords(2);
        Check.same("learn a row of one word", x.learn(2), 2);
        Check.same("learn a row of two", x.learn(12), 5);
        Check.same("learn a row of three", x.learn(111), 9);
        Check.same("learn a row of four", x.learn(2121), 14);
        Check.same("pairs", x.sum(3), 14);
    }

    private static void numbersOfRows() {
        Latticehear x = withWords(2);
        for (int bad : new int[] {0, -1, -12, 3, 13, 31, 10, 20, 101, 1001, 9, 1113, 3111, 11111, 111111111,
            Integer.MAX_VALUE, Integer.MIN_VALUE}) {
            Check.fails("learn(" + bad + ")", ARGUMENT, () -> x.learn(bad));
            Check.fails("weight(" + bad + ")", ARGUMENT, () -> x.weight(bad));
            Check.fails("weightAnew(" + bad + ")", ARGUMENT, () -> x.weightAnew(bad));
            Check.fails("errors(" + bad + ")", ARGUMENT, () -> x.errors(bad));
        }
        Check.same("pairs behind refused ones", x.sum(3), 0);
        Latticehear y = new Latticehear();
        Check.fails("learn without words", ARGUMENT, () -> y.learn(1));
        Check.same("the highest row", withWords(5).learn(5555), 5);
    }

    private static void settings() {
        Latticehear x = new Latticehear();
        Check.same("back", x.back(0), 500);
        Check.same("back", x.back(99999), 0);
        Check.fails("back(-1)", ARGUMENT, () -> x.back(-1));
        Check.fails("back(100000)", ARGUMENT, () -> x.back(100000));
        Check.same("the back", x.sum(6), 99999);
        Check.same("factor", x.factor(0), 1);
        Check.same("factor", x.factor(99), 0);
        Check.fails("factor(-1)", ARGUMENT, () -> x.factor(-1));
        Check.fails("factor(100)", ARGUMENT, () -> x.factor(100));
        Check.same("the factor", x.sum(7), 99);
        Check.same("the price has the back, and not the factor", x.price(NONE, NONE), 99999 + 2000);
    }

    private static void prices() {
        Latticehear x = withWords(3);
        Check.same("a price of a new object", x.price(NONE, NONE), 2500);
        x.learn(12);
        x.learn(11);
        Check.same("always counted so", x.price(NONE, 0), 0);
        Check.same("counted once of three times", x.price(0, 1), 1200);
        Check.same("the same word twice", x.price(0, 0), 1200);
        Check.same("the end behind", x.price(0, NONE), 1200);
        Check.same("the end behind the only time", x.price(1, NONE), 0);
        Check.same("not counted, behind it often", x.price(1, 0), 500 + 100 * (28 - 16));
        Check.same("not counted, behind it never", x.price(1, 2), 500 + 100 * 28);
        Check.same("never begun", x.price(2, 1), 500 + 100 * (28 - 8));
        Check.same("the end behind the start", x.price(NONE, NONE), 500 + 100 * (28 - 12));
        x.back(7);
        Check.same("another back", x.price(2, 1), 7 + 100 * (28 - 8));
        Check.same("no back where it was counted", x.price(0, 1), 1200);
        for (int bad : new int[] {-2, 3, Integer.MIN_VALUE, Integer.MAX_VALUE}) {
            Check.fails("price(" + bad + ", 0)", INDEX, () -> x.price(bad, 0));
            Check.fails("price(0, " + bad + ")", INDEX, () -> x.price(0, bad));
        }
    }

    /** LG in all its steps: 17 is as 16, for 8 times 17 by 16 is rounded down. */
    private static void manyPairs() {
        int[] logarithms = {0, 8, 12, 16, 18, 20, 22, 24, 25, 26, 27, 28, 29, 30, 31, 32, 32, 33, 33, 34};
        Latticehear x = withWords(2);
        x.learn(2);
        for (int times = 2; times <= 20; times++) {
            x.learn(1);
            Check.same("one of " + times, x.price(NONE, 1), 100 * logarithms[times - 1]);
            int mine = logarithms[times - 1] - logarithms[times - 2];
            Check.same("all but one of " + times, x.price(NONE, 0), 100 * mine);
        }
    }
}
