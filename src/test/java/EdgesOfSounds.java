/** The sentences of promises 8 to 15: sounds, words. */
final class EdgesOfSounds {
    private static final int[] BEYOND = {-30001, 30001, 65536, Edge.LEAST, Edge.GREATEST};
    private static final int[] BEYOND_PRICES = {-1, 10000, 65536, Edge.LEAST, Edge.GREATEST};

    private EdgesOfSounds() {
    }

    static void run() {
        sound();
        question();
        type();
        word();
        saying();
        form();
        cost();
        over();
    }

    // ---- promise 8

    private static void sound() {
        Sentence.holds(8, "Tells a SOUND.", () -> Twin.changesWhatWasAsked("sound", EdgesOfTerms::part, x -> x.sound(1, 2, 3, 4)));
        Sentence.holds(8, "- `first`: -30000 to 30000, of its CENTRE", () -> numberOfCentre(0));
        Sentence.holds(8, "- `second`: -30000 to 30000", () -> numberOfCentre(1));
        Sentence.holds(8, "- `third`: -30000 to 30000", () -> numberOfCentre(2));
        Sentence.holds(8, "- `width`: 1 to 99", () -> {
            Latticehear x = new Latticehear();
            x.sound(0, 0, 0, 1);
            x.sound(0, 0, 0, 99);
            x.frame(100, 0, 0);
            Check.same("cost by a width of 1", x.cost(0, 0, 0), 10000);
            Check.same("cost by a width of 99", x.cost(0, 1, 0), 101);
        });
        Sentence.holds(8, "Returns its number.", () -> {
            Latticehear x = new Latticehear();
            for (int number = 0; number < 6; number++) {
                Check.same("sound", x.sound(number, 0, 0, 1), number);
            }
        });
        Sentence.holds(8, "Throws `IllegalArgumentException` if an argument is out of range", () -> {
            Latticehear x = new Latticehear();
            Edge.refused(Edge.ARGUMENT, "the width", n -> x.sound(0, 0, 0, n), 0, -1, 100, 256, 65537, Edge.LEAST, Edge.GREATEST);
            Check.fails("all too great", Edge.ARGUMENT, () -> x.sound(30001, 30001, 30001, 100));
            Check.same("sounds", x.sum(1), 0);
        });
        Sentence.holds(8, "Throws `IllegalStateException` if there are 6", () -> {
            Latticehear x = Edge.sounds(5);
            Check.same("the 6th sound", x.sound(1, 0, 0, 1), 5);
            Check.fails("the 7th sound", Edge.STATE, () -> x.sound(7, 7, 7, 7));
            Check.same("sounds", x.sum(1), 6);
            x.frame(1, 0, 0);
            Check.same("cost by the 6th sound", x.cost(0, 5, 0), 0);
        });
    }

    private static int soundWith(Latticehear x, int which, int number) {
        return x.sound(which == 0 ? number : 0, which == 1 ? number : 0, which == 2 ? number : 0, 1);
    }

    private static void numberOfCentre(int which) {
        Latticehear x = new Latticehear();
        x.frame(0, 0, 0);
        int[] edges = {-30000, -29999, 29999, 30000};
        for (int number = 0; number < edges.length; number++) {
            Check.same("sound", soundWith(x, which, edges[number]), number);
            Check.same("cost by it", x.cost(0, number, 0), (long) edges[number] * edges[number]);
        }
        Edge.refused(Edge.ARGUMENT, "number " + which + " of a centre", n -> soundWith(x, which, n), BEYOND);
        Check.same("sounds behind refused ones", x.sum(1), edges.length);
    }

    // ---- promise 9

    private static void question() {
        Sentence.holds(9, "Tells one more QUESTION of a SOUND.", () -> {
            Twin.changesWhatWasAsked("question", EdgesOfTerms::part, x -> x.question(1, Latticehear.LEFT, 1, 3000));
        });
        Sentence.holds(9, "- `sound`: a SOUND", () -> {
            Latticehear x = Edge.sounds(6);
            Check.same("question of the first one", x.question(0, 0, 0, 0), 1);
            Check.same("question of the last one", x.question(5, 0, 0, 0), 1);
        });
        Sentence.holds(9, "- `side`: LEFT or RIGHT", EdgesOfSounds::bothSides);
        Sentence.holds(9, "- `set`: 0 to 63: the set, of SOUNDS that there are or not", EdgesOfSounds::allSets);
        Sentence.holds(9, "- `move`: -3000 to 3000", () -> {
            Latticehear x = Edge.sounds(1);
            x.frame(0, 0, 0);
            x.question(0, 0, 0, -3000);
            x.question(0, 0, 0, 3000);
            x.question(0, 0, 0, 0);
            Check.same("cost of the least", x.cost(0, 0, 1), 27000000);
            Check.same("cost of the greatest", x.cost(0, 0, 2), 27000000);
            Check.same("cost of none", x.cost(0, 0, 3), 0);
            x.shift(0, 0, 3000);
            Check.same("the least is below", x.cost(0, 0, 1), 18000000);
            Check.same("the greatest is above", x.cost(0, 0, 2), 18000000 + 36000000);
        });
        Sentence.holds(9, "Returns how many QUESTIONS it has then.", () -> {
            Latticehear x = Edge.sounds(2);
            for (int count = 1; count <= 3; count++) {
                Check.same("question", x.question(0, 0, 0, 0), count);
            }
            Check.same("question of another one", x.question(1, 0, 0, 0), 1);
        });
        Sentence.holds(9, "Throws `IndexOutOfBoundsException` if there is no such SOUND", () -> {
            Latticehear x = new Latticehear();
            Edge.refused(Edge.INDEX, "sound", n -> x.question(n, 0, 0, 0), 0, -1, 5);
            x.sound(0, 0, 0, 1);
            Check.same("question of the only one", x.question(0, 0, 0, 0), 1);
            Edge.refused(Edge.INDEX, "sound", n -> x.question(n, 0, 0, 0), 1, -1, 5, 6, Edge.LEAST, Edge.GREATEST);
        });
        Sentence.holds(9, "Throws `IllegalArgumentException` if side, set or move is out of range", () -> {
            Latticehear x = Edge.sounds(1);
            Edge.refused(Edge.ARGUMENT, "side", n -> x.question(0, n, 0, 0), -1, 2, Edge.LEAST, Edge.GREATEST);
            Edge.refused(Edge.ARGUMENT, "set", n -> x.question(0, 0, n, 0), -1, 64, 256, Edge.LEAST, Edge.GREATEST);
            Edge.refused(Edge.ARGUMENT, "move", n -> x.question(0, 0, 0, n), -3001, 3001, 65536, Edge.LEAST, Edge.GREATEST);
            Check.same("the first question behind refused ones", x.question(0, 0, 0, 0), 1);
        });
        Sentence.holds(9, "Throws `IllegalStateException` if it has three", EdgesOfSounds::fourthQuestion);
    }

    private static void bothSides() {
        Latticehear x = Edge.sounds(3);
        Edge.word(x, "abc", 0);
        x.question(1, Latticehear.LEFT, 4, 0);
        Check.same("c is not ahead", x.form(0, 0, 1), 0);
        x.question(1, Latticehear.RIGHT, 4, 0);
        Check.same("c is behind", x.form(0, 0, 1), 2);
        x.question(2, Latticehear.RIGHT, 2, 0);
        Check.same("b is not behind", x.form(0, 0, 2), 0);
        x.question(2, Latticehear.LEFT, 2, 0);
        Check.same("b is ahead", x.form(0, 0, 2), 2);
    }

    /** SOUNDS that are told only later may be in a set. */
    private static void allSets() {
        Latticehear x = Edge.sounds(1);
        x.question(0, Latticehear.RIGHT, 0, 0);
        x.question(0, Latticehear.RIGHT, 32, 0);
        x.question(0, Latticehear.RIGHT, 63, 0);
        for (int s = 1; s < 6; s++) {
            x.sound(0, 0, 0, 1);
        }
        for (char behind = 'a'; behind <= 'e'; behind++) {
            Check.same("word", Edge.word(x, "a" + behind, 0), behind - 'a');
            Check.same("the whole set alone has " + behind, x.form(behind - 'a', 0, 0), 3);
        }
        Edge.saying(x, 0, "af", 0);
        Check.same("the set of f alone has f", x.form(0, 1, 0), 2);
    }

    private static void fourthQuestion() {
        Latticehear x = Edge.sounds(2);
        Edge.word(x, "ab", 0);
        for (int q = 0; q < 3; q++) {
            x.question(0, Latticehear.RIGHT, 0, 0);
        }
        Check.fails("the 4th question", Edge.STATE, () -> x.question(0, Latticehear.RIGHT, 63, 9));
        Check.same("no answer by it", x.form(0, 0, 0), 0);
        x.frame(0, 0, 0);
        Check.fails("no form by it", Edge.ARGUMENT, () -> x.cost(0, 0, 4));
        Check.same("another sound can have one", x.question(1, Latticehear.LEFT, 1, 0), 1);
    }

    // ---- promise 10

    private static void type() {
        Sentence.holds(10, "- `letter`: a to f", () -> {
            for (char letter = 'a'; letter <= 'f'; letter++) {
                Latticehear x = new Latticehear();
                x.type(letter);
                for (int there = 0; there <= letter - 'a'; there++) {
                    Check.fails("word with " + letter + " of " + there + " sounds", Edge.STATE, () -> x.word(0));
                    x.sound(0, 0, 0, 1);
                }
                Check.same("word with " + letter, x.word(0), 0);
            }
        });
        Sentence.holds(10, "Returns how many THE TEXT has then.", () -> {
            Latticehear x = Edge.sounds(1);
            for (int count = 1; count <= 4; count++) {
                Check.same("type", x.type('a'), count);
            }
            x.word(0);
            Check.same("type behind word", x.type('a'), 1);
            x.saying(0, 0);
            Check.same("type behind saying", x.type('a'), 1);
        });
        Sentence.holds(10, "Throws `IllegalArgumentException` if letter is none of these", () -> {
            Latticehear x = new Latticehear();
            Edge.refused(Edge.ARGUMENT, "type", n -> x.type((char) n), '`', 'g', 'A', 'F', 0, 1, 'a' + 128, 'a' + 256, 'f' + 256, 65535);
            Check.same("the first letter behind refused ones", x.type('f'), 1);
        });
        Sentence.holds(10, "Throws `IllegalStateException` if it has 4", () -> {
            Latticehear x = Edge.sounds(2);
            Edge.type(x, "aaa");
            Check.same("the 4th letter", x.type('a'), 4);
            Check.fails("the 5th letter", Edge.STATE, () -> x.type('b'));
            Check.same("letters", x.sum(4), 4);
            x.word(0);
            Edge.hear(x, new int[3]);
            Check.same("rows of one word that has four sounds", x.sum(8), 0);
            x.frame(0, 0, 0);
            Check.same("the last of the four", x.path(3, 4), 0);
        });
    }

    // ---- promise 11

    private static void word() {
        Sentence.holds(11, "Makes a WORD with THE TEXT as its SAYING; THE TEXT is empty then.", () -> {
            Twin.changesWhatWasAsked("word", EdgesOfTerms::part, x -> x.word(3));
            Latticehear x = Edge.sounds(2);
            Edge.word(x, "abba", 0);
            Check.same("letters", x.sum(4), 0);
            Check.same("the 4th place", x.form(0, 0, 3), 0);
            Check.fails("the 5th place", Edge.INDEX, () -> x.form(0, 0, 4));
            Check.fails("the second saying", Edge.INDEX, () -> x.form(0, 1, 0));
        });
        Sentence.holds(11, "- `price`: 0 to 9999", () -> {
            Latticehear x = Edge.sounds(1);
            x.frame(0, 0, 0);
            Edge.word(x, "a", 0);
            Edge.word(x, "a", 9999);
            Check.same("the least", x.over(0, 0, 1), 0);
            Check.same("the greatest", x.over(1, 0, 1), 9999);
        });
        Sentence.holds(11, "Returns its number.", () -> {
            Latticehear x = Edge.sounds(1);
            for (int number = 0; number < 5; number++) {
                Check.same("word", Edge.word(x, "a", 0), number);
            }
        });
        Sentence.holds(11, "Throws `IllegalArgumentException` if price is out of range", () -> {
            Latticehear x = Edge.sounds(1);
            x.type('a');
            Edge.refused(Edge.ARGUMENT, "price", x::word, BEYOND_PRICES);
            Check.same("words", x.sum(2), 0);
            Check.same("letters", x.sum(4), 1);
        });
        Sentence.holds(11, "Throws `IllegalStateException` if THE TEXT is empty, or has a SOUND that there is not, or there are 5 WORDS",
            EdgesOfSounds::noWordOfThis);
    }

    private static void noWordOfThis() {
        Latticehear x = Edge.sounds(1);
        Check.fails("word of an empty text", Edge.STATE, () -> x.word(0));
        Edge.type(x, "aab");
        Check.fails("word with the sound 1 of one", Edge.STATE, () -> x.word(0));
        Check.same("the text stays", x.type('a'), 4);
        x.sound(0, 0, 0, 1);
        Check.same("word with the sound 1 of two", x.word(0), 0);
        Check.fails("word of an empty text again", Edge.STATE, () -> x.word(0));
        for (int number = 1; number < 5; number++) {
            Check.same("word", Edge.word(x, "b", 0), number);
        }
        x.type('a');
        Check.fails("the 6th word", Edge.STATE, () -> x.word(0));
        Check.same("words", x.sum(2), 5);
        Check.same("the text can still be a saying", x.saying(4, 0), 1);
    }

    // ---- promise 12

    private static void saying() {
        Sentence.holds(12, "Makes THE TEXT the second SAYING of a WORD; THE TEXT is empty then.", () -> {
            Twin.changesWhatWasAsked("saying", EdgesOfTerms::part, x -> x.saying(1, 3));
            Latticehear x = Edge.sounds(2);
            Edge.word(x, "a", 0);
            Edge.saying(x, 0, "abab", 0);
            Check.same("letters", x.sum(4), 0);
            Check.same("the 4th place", x.form(0, 1, 3), 0);
            Check.fails("the 5th place", Edge.INDEX, () -> x.form(0, 1, 4));
            Check.fails("the second place of the first saying", Edge.INDEX, () -> x.form(0, 0, 1));
        });
        Sentence.holds(12, "- `word`: a WORD", () -> {
            Latticehear x = Edge.alike(5, 1);
            Edge.saying(x, 0, "aa", 0);
            Edge.saying(x, 4, "aaa", 0);
            Check.same("of the first one", x.form(0, 1, 1), 0);
            Check.same("of the last one", x.form(4, 1, 2), 0);
            Check.fails("of another one", Edge.INDEX, () -> x.form(3, 1, 0));
        });
        Sentence.holds(12, "- `price`: 0 to 9999", () -> {
            Latticehear x = Edge.sounds(1);
            x.frame(0, 0, 0);
            Edge.word(x, "aa", 0);
            Edge.word(x, "aa", 0);
            Edge.saying(x, 0, "a", 0);
            Edge.saying(x, 1, "a", 9999);
            Check.same("the least", x.over(0, 0, 1), 0);
            Check.same("the greatest", x.over(1, 0, 1), 9999);
        });
        Sentence.holds(12, "Returns how many letters THE TEXT had.", () -> {
            Latticehear x = Edge.alike(4, 0);
            for (int count = 1; count <= 4; count++) {
                Check.same("saying", Edge.saying(x, count - 1, "aaaa".substring(0, count), 0), count);
            }
        });
        Sentence.holds(12, "Throws `IndexOutOfBoundsException` if there is no such WORD", () -> {
            Latticehear x = Edge.sounds(1);
            x.type('a');
            Edge.refused(Edge.INDEX, "saying of a word", n -> x.saying(n, 0), 0, -1, 4);
            x.word(0);
            x.type('a');
            Edge.refused(Edge.INDEX, "saying of a word", n -> x.saying(n, 0), 1, -1, 4, 5, Edge.LEAST, Edge.GREATEST);
            Check.same("letters", x.sum(4), 1);
        });
        Sentence.holds(12, "Throws `IllegalArgumentException` if price is out of range", () -> {
            Latticehear x = Edge.alike(1, 0);
            x.type('a');
            Edge.refused(Edge.ARGUMENT, "price", n -> x.saying(0, n), BEYOND_PRICES);
            Check.same("letters", x.sum(4), 1);
            Check.fails("no second saying", Edge.INDEX, () -> x.form(0, 1, 0));
        });
        Sentence.holds(12, "Throws `IllegalStateException` if THE TEXT is empty, or has a SOUND that there is not, or the WORD has two "
            + "SAYINGS", EdgesOfSounds::noSayingOfThis);
    }

    private static void noSayingOfThis() {
        Latticehear x = Edge.alike(2, 0);
        Check.fails("saying of an empty text", Edge.STATE, () -> x.saying(0, 0));
        Edge.type(x, "ba");
        Check.fails("saying with the sound 1 of one", Edge.STATE, () -> x.saying(0, 0));
        Check.same("letters", x.sum(4), 2);
        x.sound(0, 0, 0, 1);
        Check.same("saying with the sound 1 of two", x.saying(0, 0), 2);
        x.type('a');
        Check.fails("the third saying", Edge.STATE, () -> x.saying(0, 0));
        Check.same("letters", x.sum(4), 1);
        Check.fails("no third saying", Edge.INDEX, () -> x.form(0, 2, 0));
        Check.same("saying of another word", x.saying(1, 0), 1);
    }

    // ---- promise 13

    private static void form() {
        Sentence.holds(13, "- `word`: a WORD", () -> {
            Latticehear x = Edge.full();
            Check.same("of the first one", x.form(0, 0, 0), 2);
            Check.same("of the last one", x.form(4, 0, 0), 0);
        });
        Sentence.holds(13, "- `saying`: a SAYING of it", () -> {
            Latticehear x = Edge.full();
            Check.same("in the first one", x.form(0, 0, 1), 1);
            Check.same("in the second one", x.form(0, 1, 0), 0);
        });
        Sentence.holds(13, "- `place`: the place of the SOUND in it, from 0", () -> {
            Latticehear x = Edge.sounds(2);
            x.question(0, Latticehear.LEFT, 3, 0);
            x.question(0, Latticehear.RIGHT, 3, 0);
            Edge.word(x, "abba", 0);
            Check.same("the first place", x.form(0, 0, 0), 2);
            Check.same("the second place", x.form(0, 0, 1), 0);
            Check.same("the last place", x.form(0, 0, 3), 1);
        });
        Sentence.holds(13, "Returns 0 to 3.", () -> {
            Latticehear x = Edge.sounds(4);
            for (int set = 1; set <= 4; set *= 2) {
                x.question(3, Latticehear.LEFT, set, 0);
            }
            for (int word = 0; word < 4; word++) {
                Edge.word(x, "abcd".charAt(word) + "d", 0);
                Check.same("form", x.form(word, 0, 1), (word + 1) % 4);
            }
        });
        Sentence.holds(13, "Throws `IndexOutOfBoundsException` if there is no such WORD, SAYING or place", EdgesOfSounds::noSuchForm);
    }

    private static void noSuchForm() {
        Latticehear x = Edge.sounds(2);
        Edge.refused(Edge.INDEX, "word of none", n -> x.form(n, 0, 0), 0, -1, 4);
        Edge.word(x, "ab", 0);
        Edge.refused(Edge.INDEX, "word of one", n -> x.form(n, 0, 0), 1, -1, 4, 5, Edge.LEAST, Edge.GREATEST);
        Edge.refused(Edge.INDEX, "saying of one", n -> x.form(0, n, 0), 1, -1, 2, Edge.LEAST, Edge.GREATEST);
        Edge.refused(Edge.INDEX, "place of two", n -> x.form(0, 0, n), 2, -1, 3, 4, Edge.LEAST, Edge.GREATEST);
        Edge.saying(x, 0, "b", 0);
        Edge.refused(Edge.INDEX, "saying of two", n -> x.form(0, n, 0), 2, -1, Edge.LEAST, Edge.GREATEST);
        Edge.refused(Edge.INDEX, "place of one", n -> x.form(0, 1, n), 1, -1);
        Check.same("the last place", x.form(0, 0, 1), 0);
    }

    // ---- promise 14

    private static void cost() {
        Sentence.holds(14, "- `frame`: a FRAME", () -> {
            Latticehear x = Edge.sounds(1);
            Edge.hear(x, 7, 0, 0, 0, 0, 0, 0, 0, 0, 0, 0, 0, 0, 0, 0, 9);
            Check.same("of the first one", x.cost(0, 0, 0), 49);
            Check.same("of the last one", x.cost(15, 0, 0), 81);
        });
        Sentence.holds(14, "- `sound`: a SOUND", () -> {
            Latticehear x = new Latticehear();
            for (int s = 0; s < 6; s++) {
                x.sound(s - 9, 0, 0, 1);
            }
            x.frame(0, 0, 0);
            Check.same("by the first one", x.cost(0, 0, 0), 81);
            Check.same("by the last one", x.cost(0, 5, 0), 16);
        });
        Sentence.holds(14, "- `form`: 0 to how many QUESTIONS it has", () -> {
            Latticehear x = Edge.sounds(2);
            x.frame(0, 0, 0);
            for (int count = 0; count <= 3; count++) {
                Check.same("the last form of " + count, x.cost(0, 0, count), 3L * count * count);
                int beyond = count + 1;
                Check.fails("the form behind it", Edge.ARGUMENT, () -> x.cost(0, 0, beyond));
                Check.same("the form 0", x.cost(0, 0, 0), 0);
                Check.fails("a form of a sound without", Edge.ARGUMENT, () -> x.cost(0, 1, 1));
                if (count < 3) {
                    x.question(0, 0, 0, count + 1);
                }
            }
        });
        Sentence.holds(14, "Returns the COST.", () -> {
            Latticehear x = new Latticehear();
            x.sound(30000, -30000, 30000, 1);
            x.sound(30000, -30000, 30000, 99);
            x.frame(-30000, 30000, -30000);
            x.frame(30000, -30000, 30000);
            Check.same("farther than an int tells", x.cost(0, 0, 0), 10800000000L);
            Check.same("the same by 99", x.cost(0, 1, 0), 109090909L);
            Check.same("none", x.cost(1, 0, 0), 0);
        });
        Sentence.holds(14, "Throws `IndexOutOfBoundsException` if there is no such FRAME or SOUND", () -> {
            Latticehear x = new Latticehear();
            x.frame(0, 0, 0);
            Edge.refused(Edge.INDEX, "sound of none", n -> x.cost(0, n, 0), 0, -1, 5);
            x.sound(0, 0, 0, 1);
            Edge.refused(Edge.INDEX, "frame of one", n -> x.cost(n, 0, 0), 1, -1, 15, 16, Edge.LEAST, Edge.GREATEST);
            Edge.refused(Edge.INDEX, "sound of one", n -> x.cost(0, n, 0), 1, -1, 5, 6, Edge.LEAST, Edge.GREATEST);
            x.silence();
            Edge.refused(Edge.INDEX, "frame of none", n -> x.cost(n, 0, 0), 0, -1);
        });
        Sentence.holds(14, "Throws `IllegalArgumentException` if form is out of range", () -> {
            Latticehear x = Edge.full();
            Check.that("the last form", x.cost(0, 0, 3) > 0);
            Edge.refused(Edge.ARGUMENT, "form of three", n -> x.cost(0, 0, n), 4, -1, Edge.LEAST, Edge.GREATEST);
        });
    }

    // ---- promise 15

    private static void over() {
        Sentence.holds(15, "- `word`: a WORD", () -> {
            Latticehear x = Edge.sounds(1);
            x.frame(0, 0, 0);
            for (int word = 0; word < 5; word++) {
                Edge.word(x, "a", 10 + word);
            }
            Check.same("the first one", x.over(0, 0, 1), 10);
            Check.same("the last one", x.over(4, 0, 1), 14);
        });
        Sentence.holds(15, "- `from`: 0 to how many FRAMES there are, less 1: the first one", () -> {
            Latticehear x = sixteen();
            Check.same("from the first one", x.over(0, 0, 16), 65535);
            Check.same("from the last one", x.over(0, 15, 16), 32768);
            Edge.refused(Edge.ARGUMENT, "from", n -> x.over(0, n, 16), -1, 16);
        });
        Sentence.holds(15, "- `to`: from and 1 to how many FRAMES there are: the one behind the last one", () -> {
            Latticehear x = sixteen();
            for (int from = 0; from < 16; from++) {
                int first = from;
                Check.same("the least", x.over(0, from, from + 1), 1 << from);
                Check.same("the greatest", x.over(0, from, 16), 65536 - (1 << from));
                Edge.refused(Edge.ARGUMENT, "to, from " + from, n -> x.over(0, first, n), from, 17);
            }
        });
        Sentence.holds(15, "Returns the COST; NONE without.", () -> {
            Latticehear x = Edge.sounds(1);
            Edge.word(x, "aaa", 5);
            Edge.hear(x, 1, 1, 1);
            Check.same("over one", x.over(0, 0, 1), -1);
            Check.same("over two", x.over(0, 1, 3), -1);
            Check.same("over three", x.over(0, 0, 3), 8);
        });
        Sentence.holds(15, "Throws `IndexOutOfBoundsException` if there is no such WORD", () -> {
            Latticehear x = Edge.sounds(1);
            x.frame(0, 0, 0);
            Edge.refused(Edge.INDEX, "word of none", n -> x.over(n, 0, 1), 0, -1, 4);
            Edge.word(x, "a", 0);
            Edge.refused(Edge.INDEX, "word of one", n -> x.over(n, 0, 1), 1, -1, 4, 5, Edge.LEAST, Edge.GREATEST);
        });
        Sentence.holds(15, "Throws `IllegalArgumentException` if from or to is out of range", () -> {
            Latticehear x = Edge.alike(1, 0);
            Check.fails("over no frames", Edge.ARGUMENT, () -> x.over(0, 0, 0));
            Check.fails("over one of no frames", Edge.ARGUMENT, () -> x.over(0, 0, 1));
            Edge.hear(x, 0, 0);
            Edge.refused(Edge.ARGUMENT, "from", n -> x.over(0, n, 2), -1, 2, 3, Edge.LEAST, Edge.GREATEST);
            Edge.refused(Edge.ARGUMENT, "to", n -> x.over(0, 0, n), -1, 0, 3, Edge.LEAST, Edge.GREATEST);
            Edge.refused(Edge.ARGUMENT, "to behind 1", n -> x.over(0, 1, n), 1, 0, 3);
            Check.fails("from the greatest", Edge.ARGUMENT, () -> x.over(0, Edge.GREATEST, Edge.LEAST));
        });
    }

    /** The FRAMES cost 1, 2, 4 and so on; the WORD has one SOUND, and is free. */
    private static Latticehear sixteen() {
        Latticehear x = Edge.alike(1, 0);
        for (int f = 0; f < 16; f++) {
            int root = 1 << f / 2;
            x.frame(root, f % 2 == 0 ? 0 : root, 0);
        }
        return x;
    }
}
