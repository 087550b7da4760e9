/** Promises 24 to 27: the lattice. */
final class LatticeTest {
    private static final Class<IllegalArgumentException> ARGUMENT = IllegalArgumentException.class;
    private static final Class<IllegalStateException> STATE = IllegalStateException.class;
    private static final Class<IndexOutOfBoundsException> INDEX = IndexOutOfBoundsException.class;
    /** WORD, first FRAME, the one behind the last, SLACK. */
    private static final long[][] ARCS = {{0, 0, 1, 0}, {1, 0, 1, 100}, {0, 0, 2, 100}, {1, 0, 2, 100},
        {0, 0, 3, 200}, {1, 0, 3, 100}, {0, 1, 2, 100}, {1, 1, 2, 0}, {0, 1, 3, 200}, {1, 1, 3, 0},
        {0, 2, 3, 100}, {1, 2, 3, 0}};

    public static void main(String[] args) {
        arcs();
        noArcs();
        keywords();
        sure();
        Check.end();
    }

    private static void arcs() {
        Latticehear x = RowsTest.small();
        long[][] counts = {{0, 4}, {99, 4}, {100, 10}, {199, 10}, {200, 12}, {Long.MAX_VALUE, 12}};
        for (long[] count : counts) {
            Check.same("arcs(" + count[0] + ")", x.arcs(count[0]), count[1]);
            int at = 0;
            for (long[] arc : ARCS) {
                if (arc[3] <= count[0]) {
                    for (int what = 0; what < 4; what++) {
                        Check.same("arc(" + count[0] + ", " + at + ", " + what + ")", x.arc(count[0], at, what), arc[what]);
                    }
                    at++;
                }
            }
            int behind = at;
            Check.fails("the arc behind the last one", INDEX, () -> x.arc(count[0], behind, 4));
        }
        Check.fails("arcs(-1)", ARGUMENT, () -> x.arcs(-1));
        Check.fails("arc(0, -1, 0)", INDEX, () -> x.arc(0, -1, 0));
        Check.fails("arc(-1, 99, 0)", ARGUMENT, () -> x.arc(-1, 99, 0));
        Check.fails("arc(0, 0, 4)", ARGUMENT, () -> x.arc(0, 0, 4));
        Check.fails("arc(0, 0, -1)", ARGUMENT, () -> x.arc(0, 0, -1));
    }

    private static void noArcs() {
        Latticehear x = RowsTest.small();
        x.silence();
        Check.same("arcs without frames", x.arcs(Long.MAX_VALUE), 0);
        Check.fails("arc without frames", INDEX, () -> x.arc(0, 0, 0));
        Check.same("keyword without frames", x.keyword(0), Latticehear.NONE);
        Check.fails("sure without frames", INDEX, () -> x.sure(-1, 0));
        Latticehear y = new Latticehear();
        Check.same("arcs of a new object", y.arcs(0), 0);
        Check.fails("keyword of a new object", INDEX, () -> y.keyword(0));
        y.frame(0, 0, 0);
        Check.fails("sure without a best row", STATE, () -> y.sure(0, 0));
        Check.fails("sure of a frame that there is not", INDEX, () -> y.sure(-1, 1));
        Check.fails("sure with a beam below 0", ARGUMENT, () -> y.sure(-1, 0));
    }

    private static void keywords() {
        Latticehear x = RowsTest.small();
        Check.same("keyword(0)", x.keyword(0), 0);
        Check.same("keyword(1)", x.keyword(1), 0);
        SoundsTest.type(x, "ab");
        x.word(30);
        Check.same("keyword(2)", x.keyword(2), 30);
        SoundsTest.type(x, "aaaa");
        x.word(0);
        Check.same("keyword(3), too long", x.keyword(3), Latticehear.NONE);
        Check.fails("keyword(4)", INDEX, () -> x.keyword(4));
        Check.fails("keyword(-1)", INDEX, () -> x.keyword(-1));
        x.factor(1);
        Check.same("the best row with prices", x.best(0), 3);
        Check.same("keyword(0) with prices", x.keyword(0), 170);
        Check.same("keyword(1) with prices", x.keyword(1), 70);
    }

    private static void sure() {
        Latticehear x = RowsTest.small();
        Check.same("sure(0, 0)", x.sure(0, 0), Float.floatToIntBits(1.0f));
        Check.same("sure(100, 0)", x.sure(100, 0), Float.floatToIntBits(2.0f / 5.0f));
        Check.same("sure(100, 1)", x.sure(100, 1), Float.floatToIntBits(4.0f / 6.0f));
        Check.same("sure(greatest, 2)", x.sure(Long.MAX_VALUE, 2), Float.floatToIntBits(3.0f / 6.0f));
        Check.same("sure(0, 2)", x.sure(0, 2), Float.floatToIntBits(1.0f));
        Check.fails("sure(0, 3)", INDEX, () -> x.sure(0, 3));
        Check.fails("sure(-1, -1)", INDEX, () -> x.sure(-1, -1));
        Check.fails("sure(-1, 0)", ARGUMENT, () -> x.sure(-1, 0));
    }
}
