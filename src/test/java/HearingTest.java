/** Promises 2 to 7: frames, speakers. */
final class HearingTest {
    private static final Class<IllegalArgumentException> ARGUMENT = IllegalArgumentException.class;
    private static final Class<IllegalStateException> STATE = IllegalStateException.class;
    private static final Class<IndexOutOfBoundsException> INDEX = IndexOutOfBoundsException.class;

    public static void main(String[] args) {
        frames();
        silence();
        speakers();
        shifts();
        fitting();
        fittingAtTheEdges();
        fittingToForms();
        Check.end();
    }

    private static void frames() {
        Latticehear x = new Latticehear();
        Check.same("frame", x.frame(30000, -30000, 30000), 1);
        Check.same("frame", x.frame(-30000, 30000, -30000), 2);
        for (int bad : new int[] {30001, -30001, Integer.MAX_VALUE, Integer.MIN_VALUE}) {
            Check.fails("frame(bad, 0, 0)", ARGUMENT, () -> x.frame(bad, 0, 0));
            Check.fails("frame(0, bad, 0)", ARGUMENT, () -> x.frame(0, bad, 0));
            Check.fails("frame(0, 0, bad)", ARGUMENT, () -> x.frame(0, 0, bad));
        }
        Check.same("frames behind refused ones", x.sum(0), 2);
        for (int count = 3; count <= 16; count++) {
            Check.same("frame", x.frame(count, 0, 0), count);
        }
        Check.fails("the 17th frame", STATE, () -> x.frame(0, 0, 0));
        Check.fails("the 17th frame, out of range", ARGUMENT, () -> x.frame(0, 0, 30001));
        Check.same("frames", x.sum(0), 16);
        x.sound(0, 0, 0, 1);
        Check.same("cost of the first frame", x.cost(0, 0, 0), 2700000000L);
        Check.same("cost of the third frame", x.cost(2, 0, 0), 9);
        Check.same("cost of the last frame", x.cost(15, 0, 0), 256);
    }

    private static void silence() {
        Latticehear x = new Latticehear();
        Check.same("silence of none", x.silence(), 0);
        x.frame(1, 2, 3);
        x.frame(4, 5, 6);
        x.sound(0, 0, 0, 1);
        Check.same("silence", x.silence(), 2);
        Check.same("silence again", x.silence(), 0);
        Check.fails("cost of a forgotten frame", INDEX, () -> x.cost(0, 0, 0));
        Check.same("frame behind silence", x.frame(7, 0, 0), 1);
        Check.same("cost of the new frame", x.cost(0, 0, 0), 49);
        Check.same("sounds stay", x.sum(1), 1);
    }

    private static void speakers() {
        Latticehear x = new Latticehear();
        Check.same("speak", x.speak(3), 0);
        Check.same("speak", x.speak(3), 3);
        Check.fails("speak(4)", INDEX, () -> x.speak(4));
        Check.fails("speak(-1)", INDEX, () -> x.speak(-1));
        Check.same("speaker", x.sum(5), 3);
        Check.same("speak", x.speak(0), 3);
        x.sound(10, 20, 30, 1);
        x.frame(13, 24, 30);
        x.shift(0, 0, 3);
        Check.same("cost by speaker 0", x.cost(0, 0, 0), 16);
        x.speak(1);
        Check.same("cost by speaker 1", x.cost(0, 0, 0), 25);
        x.shift(0, 1, 4);
        Check.same("cost by speaker 1 still", x.cost(0, 0, 0), 25);
        x.speak(0);
        Check.same("cost by speaker 0 again", x.cost(0, 0, 0), 0);
    }

    private static void shifts() {
        Latticehear x = new Latticehear();
        Check.same("shift", x.shift(3, 2, -30000), 0);
        Check.same("shift", x.shift(3, 2, 30000), -30000);
        Check.same("shiftOf", x.shiftOf(3, 2), 30000);
        Check.same("shiftOf another number", x.shiftOf(3, 1), 0);
        Check.same("shiftOf another speaker", x.shiftOf(2, 2), 0);
        Check.fails("shift(4, 0, 0)", INDEX, () -> x.shift(4, 0, 0));
        Check.fails("shift(-1, 0, 0)", INDEX, () -> x.shift(-1, 0, 0));
        Check.fails("shift(4, 3, 30001)", INDEX, () -> x.shift(4, 3, 30001));
        Check.fails("shift(0, 3, 0)", ARGUMENT, () -> x.shift(0, 3, 0));
        Check.fails("shift(0, -1, 0)", ARGUMENT, () -> x.shift(0, -1, 0));
        Check.fails("shift(3, 2, 30001)", ARGUMENT, () -> x.shift(3, 2, 30001));
        Check.fails("shift(3, 2, -30001)", ARGUMENT, () -> x.shift(3, 2, -30001));
        Check.same("shiftOf behind refused ones", x.shiftOf(3, 2), 30000);
        Check.fails("shiftOf(4, 3)", INDEX, () -> x.shiftOf(4, 3));
        Check.fails("shiftOf(-1, 0)", INDEX, () -> x.shiftOf(-1, 0));
        Check.fails("shiftOf(0, 3)", ARGUMENT, () -> x.shiftOf(0, 3));
        Check.fails("shiftOf(0, -1)", ARGUMENT, () -> x.shiftOf(0, -1));
    }

    private static void fitting() {
        Latticehear x = new Latticehear();
        Check.fails("fit of nothing", STATE, () -> x.fit());
        x.sound(0, 0, 0, 1);
        x.type('a');
        x.word(0);
        Check.fails("fit without frames", STATE, () -> x.fit());
        x.speak(2);
        x.frame(10, -1, 30000);
        x.frame(11, 0, 30000);
        Check.same("fit", x.fit(), 5002);
        Check.same("shift is more by 21 by 2", x.shiftOf(2, 0), 10);
        Check.same("shift is more by -1 by 2", x.shiftOf(2, 1), -1);
        Check.same("shift is more by 60000 by 2", x.shiftOf(2, 2), 30000);
        Check.same("the shift of another speaker", x.shiftOf(0, 0), 0);
        Check.same("fit again", x.fit(), 5002);
        Check.same("shift is more by 1 by 2", x.shiftOf(2, 0), 10);
        x.silence();
        Check.fails("fit without a best row", STATE, () -> x.fit());
        Check.same("the shift stays", x.shiftOf(2, 1), -1);
    }

    private static void fittingAtTheEdges() {
        Latticehear x = new Latticehear();
        x.sound(-30000, 30000, 0, 99);
        x.type('a');
        x.word(7);
        x.frame(30000, -30000, 5);
        Check.same("fit beyond the edges", x.fit(), 18181818 + 7 + 5000);
        Check.same("30000 at most", x.shiftOf(0, 0), 30000);
        Check.same("-30000 at least", x.shiftOf(0, 1), -30000);
        Check.same("within", x.shiftOf(0, 2), 5);
    }

    private static void fittingToForms() {
        Latticehear x = new Latticehear();
        x.sound(0, 0, 0, 1);
        x.sound(1000, 0, 0, 1);
        x.question(0, Latticehear.RIGHT, 2, 100);
        x.type('a');
        x.type('b');
        x.word(0);
        x.frame(104, 100, 100);
        x.frame(1002, 0, 0);
        Check.same("fit to a form", x.fit(), 5002);
        Check.same("the move belongs to where it lies", x.shiftOf(0, 0), 3);
        Check.same("in all three numbers", x.shiftOf(0, 1), 0);
    }
}
