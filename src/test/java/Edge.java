/** What the tests of the sentences share: exceptions, numbers beyond all ranges, small objects. */
final class Edge {
    static final Class<IllegalArgumentException> ARGUMENT = IllegalArgumentException.class;
    static final Class<IllegalStateException> STATE = IllegalStateException.class;
    static final Class<IndexOutOfBoundsException> INDEX = IndexOutOfBoundsException.class;
    static final int NONE = Latticehear.NONE;
    static final int LEAST = Integer.MIN_VALUE;
    static final int GREATEST = Integer.MAX_VALUE;

    /** A call with one number left open. */
    interface Open {
        long with(int number);
    }

    private Edge() {
    }

    static void refused(Class<? extends RuntimeException> due, String call, Open open, int... numbers) {
        for (int number : numbers) {
            Check.fails(call + " with " + number, due, () -> open.with(number));
        }
    }

    /** SOUNDS at 0, WIDTH 1. */
    static Latticehear sounds(int count) {
        Latticehear x = new Latticehear();
        for (int s = 0; s < count; s++) {
            x.sound(0, 0, 0, 1);
        }
        return x;
    }

    static void type(Latticehear x, String letters) {
        for (char letter : letters.toCharArray()) {
            x.type(letter);
        }
    }

    static int word(Latticehear x, String letters, int price) {
        type(x, letters);
        return x.word(price);
    }

    static int saying(Latticehear x, int word, String letters, int price) {
        type(x, letters);
        return x.saying(word, price);
    }

    /** WORDS that are all the SOUND a, at 0, and FRAMES that are all at 0: nothing costs but the language. */
    static Latticehear alike(int words, int frames) {
        Latticehear x = sounds(1);
        for (int w = 0; w < words; w++) {
            word(x, "a", 0);
        }
        hear(x, new int[frames]);
        return x;
    }

    /** FRAMES with these first numbers, the others 0. */
    static void hear(Latticehear x, int... firsts) {
        for (int first : firsts) {
            x.frame(first, 0, 0);
        }
    }

    /** The WORDS a, at 0, and b, at 10, over FRAMES at 0, 10 and 10; the FACTOR is 0. */
    static Latticehear small() {
        return RowsTest.small();
    }

    /** As many as there can be of all: 16 FRAMES, 6 SOUNDS of 3 QUESTIONS, 5 WORDS of 2 SAYINGS, 4 letters. */
    static Latticehear full() {
        Latticehear x = new Latticehear();
        for (int s = 0; s < 6; s++) {
            x.sound(s * 10, -s, s, 1 + s);
        }
        for (int s = 0; s < 6; s++) {
            x.question(s, Latticehear.LEFT, 9, 3);
            x.question(s, Latticehear.RIGHT, 18, -4);
            x.question(s, Latticehear.LEFT, 36, 5);
        }
        for (int w = 0; w < 5; w++) {
            word(x, "abcdefab".substring(w, w + 3), 10 * w);
            saying(x, w, "fedcba".substring(w, w + 1), 5);
        }
        for (int f = 0; f < 16; f++) {
            x.frame(f * f * 7 % 53, f % 5, -f % 3);
        }
        type(x, "fade");
        return x;
    }
}
