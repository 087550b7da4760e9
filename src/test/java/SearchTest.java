/** Promise 23: the search that drops what is too dear. */
final class SearchTest {
    private static final Class<IllegalArgumentException> ARGUMENT = IllegalArgumentException.class;

    public static void main(String[] args) {
        nothingIsDropped();
        theBeamDrops();
        theMostDrops();
        theEndHasItsPrice();
        homophones();
        whatIsDroppedIsLost();
        noneIsFound();
        Check.end();
    }

    private static void due(Latticehear x, long beam, int most, long[] three) {
        for (int what = 0; what < 3; what++) {
            Check.same("found(" + beam + ", " + most + ", " + what + ")", x.found(beam, most, what), three[what]);
        }
    }

    private static void nothingIsDropped() {
        Latticehear x = RowsTest.small();
        due(x, 1000, 99, new long[] {12, 0, 0});
        due(x, Long.MAX_VALUE, Integer.MAX_VALUE, new long[] {12, 0, 0});
        Check.fails("beam -1", ARGUMENT, () -> x.found(-1, 1, 0));
        Check.fails("beam least", ARGUMENT, () -> x.found(Long.MIN_VALUE, 1, 0));
        Check.fails("most 0", ARGUMENT, () -> x.found(0, 0, 0));
        Check.fails("most least", ARGUMENT, () -> x.found(0, Integer.MIN_VALUE, 0));
        Check.fails("what 3", ARGUMENT, () -> x.found(0, 1, 3));
        Check.fails("what -1", ARGUMENT, () -> x.found(0, 1, -1));
    }

    /** At 1 the row 2 is dropped, at 2 the rows 1, 2 and 11, at 3 the rows 1, 2, 11 and 121. */
    private static void theBeamDrops() {
        Latticehear x = RowsTest.small();
        due(x, 0, 99, new long[] {12, 0, 8});
        due(x, 99, 99, new long[] {12, 0, 8});
    }

    /** At a beam of 100 none but 1 and 11 at 3, both at 200, are too dear. */
    private static void theMostDrops() {
        Latticehear x = RowsTest.small();
        due(x, 100, 99, new long[] {12, 0, 2});
        due(x, 1000, 1, new long[] {12, 0, 9});
        due(x, 100, 1, new long[] {12, 0, 9});
        // at 1 both stay, at 2 the rows 12 and 1, at 3 the rows 12 and 122 of all six
        due(x, 1000, 2, new long[] {12, 0, 6});
    }

    private static void theEndHasItsPrice() {
        Latticehear x = RowsTest.small();
        x.factor(1);
        due(x, 100000, 99, new long[] {2, 5100, 0});
        Check.same("as the weight", x.weight(2), 5100);
        x.learn(12);
        due(x, 100000, 99, new long[] {12, 0, 0});
        x.back(0);
        x.learn(1);
        Check.same("the price of a and the end", x.price(0, -1), 800);
        due(x, 100000, 99, new long[] {12, 800, 0});
    }

    /** Two words that sound as one: of two rows that weigh as much the lower number is the END, and is found. */
    private static void homophones() {
        Latticehear x = new Latticehear();
        x.sound(0, 0, 0, 1);
        x.type('a');
        x.word(0);
        x.type('a');
        x.word(0);
        x.frame(1, 0, 0);
        due(x, 0, 1, new long[] {1, 5001, 1});
        x.frame(1, 0, 0);
        x.frame(1, 0, 0);
        x.factor(0);
        // at 1: 1 and 2; at 2: 1, 2, 11 of 11 and 21, 12 of 12 and 22; at 3: 1, 2, 11, 12, 111, 112
        due(x, 0, 99, new long[] {1, 3, 0});
        due(x, 0, 2, new long[] {1, 3, 0 + 2 + 2});
    }

    /** The word b is a little dearer at first, and dropped there, although it begins the best row. */
    private static void whatIsDroppedIsLost() {
        Latticehear x = new Latticehear();
        x.sound(0, 0, 0, 1);
        x.sound(10, 0, 0, 1);
        x.sound(1000, 0, 0, 1);
        for (char letter = 'a'; letter <= 'c'; letter++) {
            x.type(letter);
            x.word(0);
        }
        x.frame(4, 0, 0);
        x.frame(1000, 0, 0);
        x.back(99999);
        x.learn(1);
        x.learn(23);
        Check.same("the price of the start and a, or b", x.price(-1, 1), 800);
        Check.same("the price of a and c", x.price(0, 2), 99999 + 100 * (27 - 8));
        Check.same("the best row", x.best(0), 23);
        due(x, 20, 99, new long[] {23, 36 + 800, 1 + 5});
        due(x, 19, 99, new long[] {13, 16 + 800 + 101899, 2 + 5});
        due(x, 1000000000, 1, new long[] {13, 16 + 800 + 101899, 2 + 5});
        due(x, 1000000000, 2, new long[] {23, 36 + 800, 1 + 4});
    }

    private static void noneIsFound() {
        Latticehear x = new Latticehear();
        due(x, 0, 1, new long[] {-1, -1, 0});
        x.sound(0, 0, 0, 1);
        SoundsTest.type(x, "aaa");
        x.word(0);
        due(x, 0, 1, new long[] {-1, -1, 0});
        x.frame(0, 0, 0);
        x.frame(0, 0, 0);
        due(x, 0, 1, new long[] {-1, -1, 0});
        x.frame(0, 0, 0);
        due(x, 0, 1, new long[] {1, 5000, 0});
    }
}
