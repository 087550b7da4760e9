/** Promises 8 to 15: sounds, words. */
final class SoundsTest {
    private static final Class<IllegalArgumentException> ARGUMENT = IllegalArgumentException.class;
    private static final Class<IllegalStateException> STATE = IllegalStateException.class;
    private static final Class<IndexOutOfBoundsException> INDEX = IndexOutOfBoundsException.class;

    public static void main(String[] args) {
        sounds();
        questions();
        letters();
        words();
        sayings();
        forms();
        costs();
        costsOver();
        Check.end();
    }

    static void type(Latticehear x, String letters) {
        for (char letter : letters.toCharArray()) {
            x.type(letter);
        }
    }

    private static void sounds() {
        Latticehear x = new Latticehear();
        Check.same("sound", x.sound(30000, -30000, 30000, 1), 0);
        Check.same("sound", x.sound(-30000, 30000, -30000, 99), 1);
        for (int bad : new int[] {30001, -30001}) {
            Check.fails("sound(bad, 0, 0, 1)", ARGUMENT, () -> x.sound(bad, 0, 0, 1));
            Check.fails("sound(0, bad, 0, 1)", ARGUMENT, () -> x.sound(0, bad, 0, 1));
            Check.fails("sound(0, 0, bad, 1)", ARGUMENT, () -> x.sound(0, 0, bad, 1));
        }
        Check.fails("width 0", ARGUMENT, () -> x.sound(0, 0, 0, 0));
        Check.fails("width -1", ARGUMENT, () -> x.sound(0, 0, 0, -1));
        Check.fails("width 100", ARGUMENT, () -> x.sound(0, 0, 0, 100));
        Check.same("sounds behind refused ones", x.sum(1), 2);
        for (int number = 2; number < 6; number++) {
            Check.same("sound", x.sound(0, 0, number, 3), number);
        }
        Check.fails("the 7th sound", STATE, () -> x.sound(0, 0, 0, 1));
        Check.fails("the 7th sound, out of range", ARGUMENT, () -> x.sound(0, 0, 0, 100));
        Check.same("sounds", x.sum(1), 6);
    }

    private static void questions() {
        Latticehear x = new Latticehear();
        Check.fails("question of no sound", INDEX, () -> x.question(0, 0, 0, 0));
        x.sound(0, 0, 0, 1);
        x.sound(0, 0, 0, 1);
        Check.same("question", x.question(0, Latticehear.LEFT, 0, -3000), 1);
        Check.same("question", x.question(0, Latticehear.RIGHT, 63, 3000), 2);
        Check.fails("question of sound 2", INDEX, () -> x.question(2, 2, 64, 3001));
        Check.fails("question of sound -1", INDEX, () -> x.question(-1, 0, 0, 0));
        Check.fails("side 2", ARGUMENT, () -> x.question(0, 2, 0, 0));
        Check.fails("side -1", ARGUMENT, () -> x.question(0, -1, 0, 0));
        Check.fails("set 64", ARGUMENT, () -> x.question(0, 0, 64, 0));
        Check.fails("set -1", ARGUMENT, () -> x.question(0, 0, -1, 0));
        Check.fails("move 3001", ARGUMENT, () -> x.question(0, 0, 0, 3001));
        Check.fails("move -3001", ARGUMENT, () -> x.question(0, 0, 0, -3001));
        Check.same("question behind refused ones", x.question(0, 0, 0, 0), 3);
        Check.fails("the 4th question", STATE, () -> x.question(0, 0, 0, 0));
        Check.fails("the 4th question, out of range", ARGUMENT, () -> x.question(0, 0, 64, 0));
        Check.same("question of another sound", x.question(1, 0, 0, 0), 1);
    }

    private static void letters() {
        Latticehear x = new Latticehear();
        for (char bad : new char[] {'`', 'g', 'A', 'F', 0, ' ', (char) 255}) {
            Check.fails("type of " + (int) bad, ARGUMENT, () -> x.type(bad));
        }
        Check.same("letters behind refused ones", x.sum(4), 0);
        Check.same("type", x.type('f'), 1);
        Check.same("type", x.type('a'), 2);
        Check.same("type", x.type('a'), 3);
        Check.same("type", x.type('c'), 4);
        Check.fails("the 5th letter", STATE, () -> x.type('a'));
        Check.fails("the 5th letter, none", ARGUMENT, () -> x.type('g'));
        Check.same("letters", x.sum(4), 4);
    }

    private static void words() {
        Latticehear x = new Latticehear();
        Check.fails("word of an empty text", STATE, () -> x.word(0));
        x.type('b');
        x.sound(0, 0, 0, 1);
        Check.fails("word with a sound that there is not", STATE, () -> x.word(0));
        Check.fails("the same, out of range", ARGUMENT, () -> x.word(-1));
        Check.same("the text stays", x.sum(4), 1);
        x.sound(0, 0, 0, 1);
        Check.fails("price -1", ARGUMENT, () -> x.word(-1));
        Check.fails("price 10000", ARGUMENT, () -> x.word(10000));
        Check.same("word", x.word(9999), 0);
        Check.same("the text is empty", x.sum(4), 0);
        Check.fails("word of an empty text again", STATE, () -> x.word(0));
        for (int number = 1; number < 5; number++) {
            x.type('a');
            Check.same("word", x.word(0), number);
        }
        x.type('a');
        Check.fails("the 6th word", STATE, () -> x.word(0));
        Check.fails("the 6th word, out of range", ARGUMENT, () -> x.word(10000));
        Check.same("words", x.sum(2), 5);
        Check.same("the text stays", x.sum(4), 1);
    }

    private static void sayings() {
        Latticehear x = new Latticehear();
        x.sound(0, 0, 0, 1);
        x.type('a');
        Check.fails("saying of no word", INDEX, () -> x.saying(0, 0));
        x.word(5);
        Check.fails("saying of an empty text", STATE, () -> x.saying(0, 0));
        type(x, "ab");
        Check.fails("saying with a sound that there is not", STATE, () -> x.saying(0, 0));
        x.sound(0, 0, 0, 1);
        Check.fails("saying of word 1", INDEX, () -> x.saying(1, -1));
        Check.fails("saying of word -1", INDEX, () -> x.saying(-1, 0));
        Check.fails("price -1", ARGUMENT, () -> x.saying(0, -1));
        Check.fails("price 10000", ARGUMENT, () -> x.saying(0, 10000));
        Check.same("the text stays", x.sum(4), 2);
        Check.same("saying", x.saying(0, 9999), 2);
        Check.same("the text is empty", x.sum(4), 0);
        type(x, "a");
        Check.fails("the third saying", STATE, () -> x.saying(0, 0));
        Check.fails("the third saying, out of range", ARGUMENT, () -> x.saying(0, 10000));
        Check.same("words", x.sum(2), 1);
        x.frame(0, 0, 0);
        x.frame(0, 0, 0);
        Check.same("over by the first saying", x.over(0, 0, 2), 5);
    }

    private static void forms() {
        Latticehear x = new Latticehear();
        for (int s = 0; s < 3; s++) {
            x.sound(0, 0, 0, 1);
        }
        type(x, "abca");
        x.word(0);
        Check.same("form without questions", x.form(0, 0, 1), 0);
        x.question(1, Latticehear.RIGHT, 1 << 0 | 1 << 5, 1);
        Check.same("behind b there is no a", x.form(0, 0, 1), 0);
        x.question(1, Latticehear.LEFT, 1 << 0, 1);
        Check.same("ahead of b there is a", x.form(0, 0, 1), 2);
        x.question(1, Latticehear.RIGHT, 1 << 2, 1);
        Check.same("the first that is answered by yes", x.form(0, 0, 1), 2);
        x.question(0, Latticehear.LEFT, 63, 1);
        Check.same("no sound ahead of the first one", x.form(0, 0, 0), 0);
        Check.same("a sound ahead of the last one", x.form(0, 0, 3), 1);
        x.question(0, Latticehear.RIGHT, 63, 1);
        Check.same("a sound behind the first one", x.form(0, 0, 0), 2);
        x.question(2, Latticehear.LEFT, 0, 1);
        x.question(2, Latticehear.RIGHT, 63 - 1, 1);
        Check.same("in none of the sets", x.form(0, 0, 2), 0);
        x.question(2, Latticehear.RIGHT, 1, 1);
        Check.same("in the third set", x.form(0, 0, 2), 3);
        Check.fails("place 4", INDEX, () -> x.form(0, 0, 4));
        Check.fails("place -1", INDEX, () -> x.form(0, 0, -1));
        Check.fails("saying 1", INDEX, () -> x.form(0, 1, 0));
        Check.fails("saying -1", INDEX, () -> x.form(0, -1, 0));
        Check.fails("word 1", INDEX, () -> x.form(1, 0, 0));
        Check.fails("word -1", INDEX, () -> x.form(-1, 0, 0));
        type(x, "cb");
        x.saying(0, 0);
        Check.same("the neighbours in the second saying", x.form(0, 1, 1), 0);
        Check.fails("place 2 of the second saying", INDEX, () -> x.form(0, 1, 2));
        type(x, "b");
        x.word(0);
        Check.same("no neighbours at all", x.form(1, 0, 0), 0);
    }

    private static void costs() {
        Latticehear x = new Latticehear();
        x.sound(10, -10, 0, 7);
        x.question(0, Latticehear.LEFT, 0, 5);
        x.question(0, Latticehear.LEFT, 0, -3000);
        x.frame(13, -6, 5);
        Check.same("9 and 16 and 25, by 7", x.cost(0, 0, 0), 7);
        Check.same("4 and 1 and 0, by 7", x.cost(0, 0, 1), 0);
        Check.same("the form of the second question", x.cost(0, 0, 2), (9018009 + 9024016 + 9030025) / 7);
        Check.fails("form 3", ARGUMENT, () -> x.cost(0, 0, 3));
        Check.fails("form -1", ARGUMENT, () -> x.cost(0, 0, -1));
        Check.fails("frame 1", INDEX, () -> x.cost(1, 0, 3));
        Check.fails("frame -1", INDEX, () -> x.cost(-1, 0, 0));
        Check.fails("sound 1", INDEX, () -> x.cost(0, 1, 9));
        Check.fails("sound -1", INDEX, () -> x.cost(0, -1, 0));
        x.sound(30000, 30000, 30000, 1);
        x.question(1, Latticehear.LEFT, 0, 3000);
        x.frame(-30000, -30000, -30000);
        for (int which = 0; which < 3; which++) {
            x.shift(0, which, 30000);
        }
        Check.same("the greatest of all costs", x.cost(1, 1, 1), 3L * 93000 * 93000);
    }

    private static void costsOver() {
        Latticehear x = new Latticehear();
        x.sound(0, 0, 0, 1);
        x.sound(10, 0, 0, 1);
        type(x, "ab");
        x.word(1000);
        for (int number : new int[] {0, 1, 9, 10}) {
            x.frame(number, 0, 0);
        }
        Check.same("too few frames", x.over(0, 0, 1), Latticehear.NONE);
        Check.same("two frames", x.over(0, 0, 2), 1081);
        Check.same("all frames", x.over(0, 0, 4), 1002);
        Check.same("the last three", x.over(0, 1, 4), 1002);
        Check.same("the last two", x.over(0, 2, 4), 1081);
        Check.same("the last one", x.over(0, 3, 4), Latticehear.NONE);
        type(x, "b");
        x.saying(0, 900);
        Check.same("the second saying", x.over(0, 3, 4), 900);
        Check.same("the dearer second saying", x.over(0, 0, 4), 1002);
        Check.same("the cheaper second saying", x.over(0, 2, 4), 901);
        Check.fails("word 1", INDEX, () -> x.over(1, 4, 4));
        Check.fails("word -1", INDEX, () -> x.over(-1, 0, 1));
        Check.fails("from -1", ARGUMENT, () -> x.over(0, -1, 1));
        Check.fails("from 4", ARGUMENT, () -> x.over(0, 4, 5));
        Check.fails("from the greatest", ARGUMENT, () -> x.over(0, Integer.MAX_VALUE, 1));
        Check.fails("to as from", ARGUMENT, () -> x.over(0, 2, 2));
        Check.fails("to 5", ARGUMENT, () -> x.over(0, 0, 5));
        Check.fails("to 0", ARGUMENT, () -> x.over(0, 0, 0));
        x.question(1, Latticehear.LEFT, 1, -1);
        Check.same("the forms in the saying", x.over(0, 0, 4), 1000 + 0 + 1 + 2 + 3);
        x.silence();
        Check.fails("over no frames", ARGUMENT, () -> x.over(0, 0, 1));
    }
}
