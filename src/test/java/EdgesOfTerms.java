import java.util.function.Consumer;
import java.util.function.Supplier;

/** The sentences ahead of the promises: the face and the terms. */
final class EdgesOfTerms {
    private EdgesOfTerms() {
    }

    static void run() {
        Sentence.holds(0, "An object is used for at most 512 calls after it has been made", EdgesOfTerms::allCalls);
        Sentence.holds(0, "A call of a method that throws an exception changes nothing", EdgesOfTerms::refusalsChangeNothing);
        Sentence.holds(0, "if several exceptions apply, the one that its @throws lines name first is thrown.", EdgesOfTerms::firstException);
        Sentence.holds(0, "All divisions of whole numbers are rounded down, also below 0 (-1 by 2 is -1).", EdgesOfTerms::roundedDown);
        Sentence.holds(0, "The constants: `NONE = -1`: None; the START ahead of a ROW, the END behind it.", EdgesOfTerms::none);
        framesAndSpeakers();
        soundsAndWords();
    }

    // ---- calls

    private static void allCalls() {
        Latticehear x = Edge.alike(1, 16);
        for (int call = 20; call <= 499; call++) {
            Check.same("learn, the call " + call, x.learn(1111), 5 * (call - 19));
        }
        Check.same("the start and a", x.price(-1, 0), 0);
        Check.same("1440 of 1920", x.price(0, 0), 100 * (87 - 83));
        Check.same("480 of 1920", x.price(0, -1), 100 * (87 - 71));
        Check.same("not counted, of 2400, 480 behind it", x.price(-1, -1), 500 + 100 * (89 - 71));
        Check.same("pairs", x.sum(3), 2400);
        Check.same("the best row", x.best(0), 1);
        Check.same("the last one", x.best(3), 1111);
        Check.same("found", x.found(Long.MAX_VALUE, Edge.GREATEST, 1), 1600);
        Check.same("arcs", x.arcs(Long.MAX_VALUE), 136);
        Check.same("sure", x.sure(0, 15), Float.floatToIntBits(1.0f));
        Check.same("path", x.path(15, 4), 0);
        Check.same("weightAnew", x.weightAnew(1111), 3 * 400 + 1600);
        Check.same("the 512th call", x.weight(1111), 3 * 400 + 1600);
    }

    private static void unchanged(String call, Supplier<Latticehear> made, Consumer<Latticehear> refused) {
        Twin.refusalChangesNothing(call, made, refused);
    }

    private static void refusalsChangeNothing() {
        Supplier<Latticehear> part = EdgesOfTerms::part;
        Supplier<Latticehear> full = Edge::full;
        unchanged("frame", part, x -> x.frame(1, 2, 30001));
        unchanged("a 17th frame", full, x -> x.frame(1, 2, 3));
        unchanged("speak", part, x -> x.speak(4));
        unchanged("shift of no speaker", part, x -> x.shift(4, 1, 7));
        unchanged("shift of no number", part, x -> x.shift(1, 3, 7));
        unchanged("shift too far", part, x -> x.shift(1, 2, -30001));
        unchanged("shiftOf", part, x -> x.shiftOf(1, 3));
        unchanged("sound", part, x -> x.sound(1, 2, 3, 100));
        unchanged("sound too far", part, x -> x.sound(1, 2, -30001, 9));
        unchanged("a 7th sound", full, x -> x.sound(1, 2, 3, 4));
        unchanged("question", part, x -> x.question(0, 1, 63, 3001));
        unchanged("question of no sound", part, x -> x.question(4, 1, 63, 3));
        unchanged("a 4th question", full, x -> x.question(0, 1, 63, 3));
        unchanged("type", part, x -> x.type('g'));
        unchanged("a 5th letter", full, x -> x.type('a'));
        unchanged("word too dear", part, x -> x.word(10000));
        unchanged("a 6th word", full, x -> x.word(1));
        unchanged("word of a sound that there is not", EdgesOfTerms::partWithF, x -> x.word(1));
        unchanged("word of an empty text", EdgesOfTerms::wordless, x -> x.word(1));
        unchanged("saying of no word", part, x -> x.saying(3, 1));
        unchanged("saying too dear", part, x -> x.saying(2, -1));
        unchanged("a third saying", full, x -> x.saying(2, 1));
        unchanged("a third saying of a part", part, x -> x.saying(0, 1));
        unchanged("saying of a sound that there is not", EdgesOfTerms::partWithF, x -> x.saying(2, 1));
        unchanged("learn", part, x -> x.learn(1214));
        unchanged("learn of five", part, x -> x.learn(12121));
        unchanged("learn without words", EdgesOfTerms::wordless, x -> x.learn(1));
        unchanged("back", part, x -> x.back(100000));
        unchanged("factor", part, x -> x.factor(100));
        unchanged("fit", EdgesOfTerms::wordless, x -> x.fit());
        unchanged("form", part, x -> x.form(2, 1, 0));
        unchanged("cost", part, x -> x.cost(0, 0, 3));
        unchanged("over", part, x -> x.over(0, 1, 1));
        unchanged("price", part, x -> x.price(0, 3));
        unchanged("weight", part, x -> x.weight(14));
        unchanged("weightAnew", part, x -> x.weightAnew(41));
        unchanged("best", part, x -> x.best(-1));
        unchanged("found", part, x -> x.found(5, 0, 0));
        unchanged("found of a beam below 0", part, x -> x.found(-1, 1, 0));
        unchanged("arcs", part, x -> x.arcs(-1));
        unchanged("arc", part, x -> x.arc(0, 999, 0));
        unchanged("keyword", part, x -> x.keyword(3));
        unchanged("sure", part, x -> x.sure(-1, 0));
        unchanged("sure without a best row", EdgesOfTerms::wordless, x -> x.sure(0, 0));
        unchanged("path", part, x -> x.path(0, 6));
        unchanged("path without a best row", EdgesOfTerms::wordless, x -> x.path(0, 0));
        unchanged("errors", part, x -> x.errors(4));
        unchanged("sum", part, x -> x.sum(9));
    }

    /** Some of all, and none of all that there can be. */
    static Latticehear part() {
        Latticehear x = wordless();
        x.question(0, Latticehear.RIGHT, 2, 3);
        x.question(0, Latticehear.LEFT, 5, -3);
        Edge.word(x, "ab", 4);
        Edge.saying(x, 0, "cab", 2);
        Edge.word(x, "dca", 0);
        Edge.word(x, "b", 9);
        x.learn(12);
        x.learn(231);
        x.back(70);
        x.factor(3);
        Edge.type(x, "ad");
        return x;
    }

    private static Latticehear partWithF() {
        Latticehear x = part();
        x.type('f');
        return x;
    }

    private static Latticehear wordless() {
        Latticehear x = new Latticehear();
        for (int s = 0; s < 4; s++) {
            x.sound(9 * s, 2 * s, -s, s + 2);
        }
        Edge.hear(x, 3, 29, 8, -4, 15, 21);
        x.speak(1);
        x.shift(1, 0, 2);
        x.shift(2, 1, 8);
        return x;
    }

    private static void firstException() {
        Latticehear x = Edge.full();
        Check.fails("frame out of range, with 16", Edge.ARGUMENT, () -> x.frame(30001, 0, 0));
        Check.fails("shift of no speaker, which", Edge.INDEX, () -> x.shift(4, 3, 0));
        Check.fails("shift of no speaker, number", Edge.INDEX, () -> x.shift(-1, 0, 30001));
        Check.fails("shiftOf no speaker, which", Edge.INDEX, () -> x.shiftOf(4, 3));
        Check.fails("sound out of range, with 6", Edge.ARGUMENT, () -> x.sound(0, 0, 0, 0));
        Check.fails("sound too far, with 6", Edge.ARGUMENT, () -> x.sound(0, 30001, 0, 1));
        Check.fails("question of no sound, side", Edge.INDEX, () -> x.question(6, 2, 0, 0));
        Check.fails("question of no sound, set", Edge.INDEX, () -> x.question(-1, 0, 64, 0));
        Check.fails("question of no sound, move", Edge.INDEX, () -> x.question(6, 0, 0, 3001));
        Check.fails("question, side, with three", Edge.ARGUMENT, () -> x.question(0, 2, 0, 0));
        Check.fails("question, set, with three", Edge.ARGUMENT, () -> x.question(0, 0, -1, 0));
        Check.fails("question, move, with three", Edge.ARGUMENT, () -> x.question(0, 0, 0, -3001));
        Check.fails("type, with 4 letters", Edge.ARGUMENT, () -> x.type('g'));
        Check.fails("word too dear, with 5", Edge.ARGUMENT, () -> x.word(10000));
        Check.fails("saying of no word, too dear", Edge.INDEX, () -> x.saying(5, 10000));
        Check.fails("saying too dear, with two", Edge.ARGUMENT, () -> x.saying(0, 10000));
        Check.fails("cost of no frame, form", Edge.INDEX, () -> x.cost(16, 0, 4));
        Check.fails("cost of no sound, form", Edge.INDEX, () -> x.cost(0, 6, 4));
        Check.fails("over of no word, from", Edge.INDEX, () -> x.over(5, -1, 1));
        Check.fails("over of no word, to", Edge.INDEX, () -> x.over(-1, 0, 17));
        Check.fails("arc that there is not, what", Edge.INDEX, () -> x.arc(0, -1, 4));
        Check.fails("arc that there is not, beam", Edge.ARGUMENT, () -> x.arc(-1, -1, 0));
        Check.fails("arc that there is not, beam, what", Edge.ARGUMENT, () -> x.arc(-1, -1, 4));
        Check.fails("sure of no frame, beam", Edge.INDEX, () -> x.sure(-1, 16));
        Check.fails("path of no frame, what", Edge.INDEX, () -> x.path(16, 6));
        firstExceptionWithout();
    }

    /** Without WORDS, and so without a BEST ROW. */
    private static void firstExceptionWithout() {
        Latticehear x = Edge.alike(0, 1);
        Check.fails("word too dear, of an empty text", Edge.ARGUMENT, () -> x.word(-1));
        Check.fails("saying of no word, of an empty text", Edge.INDEX, () -> x.saying(0, 0));
        Check.fails("saying of no word, too dear, of an empty text", Edge.INDEX, () -> x.saying(0, -1));
        Check.fails("sure of no frame", Edge.INDEX, () -> x.sure(0, 1));
        Check.fails("sure of no frame, beam", Edge.INDEX, () -> x.sure(-1, 1));
        Check.fails("sure with a beam below 0", Edge.ARGUMENT, () -> x.sure(-1, 0));
        Check.fails("path of no frame", Edge.INDEX, () -> x.path(1, 0));
        Check.fails("path of no frame, what", Edge.INDEX, () -> x.path(1, 6));
        Check.fails("path, what", Edge.ARGUMENT, () -> x.path(0, 6));
        Check.fails("errors of no row", Edge.ARGUMENT, () -> x.errors(1));
        x.type('b');
        Check.fails("word too dear, of a sound that there is not", Edge.ARGUMENT, () -> x.word(10000));
        Latticehear y = Edge.alike(1, 0);
        Check.fails("saying too dear, of an empty text", Edge.ARGUMENT, () -> y.saying(0, -1));
        Check.fails("over of no frames, no word", Edge.INDEX, () -> y.over(1, 0, 0));
        Check.fails("errors of no row, without a best row", Edge.ARGUMENT, () -> y.errors(2));
        y.type('f');
        Check.fails("saying of no word, of a sound that there is not", Edge.INDEX, () -> y.saying(1, 0));
        Check.fails("saying too dear, of a sound that there is not", Edge.ARGUMENT, () -> y.saying(0, 10000));
    }

    private static void roundedDown() {
        Latticehear x = Edge.alike(1, 1);
        x.frame(-1, 1, 0);
        x.fit();
        Check.same("-1 by 2", x.shiftOf(0, 0), -1);
        Check.same("1 by 2", x.shiftOf(0, 1), 0);
        Latticehear y = new Latticehear();
        y.sound(0, 0, 0, 4);
        Edge.hear(y, 1, 2, 3);
        Check.same("1 by 4", y.cost(0, 0, 0), 0);
        Check.same("4 by 4", y.cost(1, 0, 0), 1);
        Check.same("9 by 4", y.cost(2, 0, 0), 2);
    }

    private static void none() {
        Check.same("NONE", Latticehear.NONE, -1);
        Latticehear x = Edge.alike(2, 0);
        x.learn(2);
        Check.same("the start ahead", x.price(Latticehear.NONE, 1), 0);
        Check.same("the end behind", x.price(1, Latticehear.NONE), 0);
        Check.same("the end is not behind the start", x.price(Latticehear.NONE, Latticehear.NONE), 500 + 100 * (24 - 8));
    }

    // ---- frames, speakers

    private static void framesAndSpeakers() {
        Sentence.holds(0, "There are up to 16 FRAMES, numbered from 0, each with three NUMBERS, -30000 to 30000.", () -> {
            Latticehear x = Edge.sounds(1);
            for (int f = 0; f < 16; f++) {
                x.frame(f % 3 == 0 ? 30000 : f, f % 3 == 1 ? -30000 : f, f % 3 == 2 ? 30000 : f);
            }
            Check.fails("one more", Edge.STATE, () -> x.frame(0, 0, 0));
            for (int f = 0; f < 16; f++) {
                Check.same("cost of " + f, x.cost(f, 0, 0), 900000000L + 2 * f * f);
            }
            Check.fails("cost of 16", Edge.INDEX, () -> x.cost(16, 0, 0));
        });
        Sentence.holds(0, "There are the SPEAKERS 0 to 3, each with a SHIFT of three numbers, -30000 to 30000, all 0 at first; one of them "
            + "speaks, 0 at first.", () -> {
                Latticehear x = new Latticehear();
                Check.same("the speaker at first", x.sum(5), 0);
                for (int speaker = 0; speaker < 4; speaker++) {
                    for (int which = 0; which < 3; which++) {
                        Check.same("at first", x.shiftOf(speaker, which), 0);
                        x.shift(speaker, which, 30000 - speaker);
                        x.shift(speaker, which, -30000 + which);
                    }
                }
                for (int speaker = 0; speaker < 4; speaker++) {
                    for (int which = 0; which < 3; which++) {
                        Check.same("then", x.shiftOf(speaker, which), -30000 + which);
                    }
                }
            });
    }

    // ---- sounds, words

    private static void soundsAndWords() {
        Sentence.holds(0, "SOUNDS are numbered from 0, up to 6, each with a CENTRE of three numbers, -30000 to 30000, a WIDTH, 1 to 99, and "
            + "up to three QUESTIONS.", () -> {
                Latticehear x = new Latticehear();
                x.frame(0, 0, 0);
                for (int s = 0; s < 6; s++) {
                    x.sound(s % 2 == 0 ? 30000 : -30000, s, -s, s == 5 ? 99 : 1);
                    for (int q = 0; q < 3; q++) {
                        x.question(s, 0, 0, 0);
                    }
                }
                for (int s = 0; s < 6; s++) {
                    Check.same("cost by " + s, x.cost(0, s, 3), (900000000L + 2 * s * s) / (s == 5 ? 99 : 1));
                }
                Check.fails("one sound more", Edge.STATE, () -> x.sound(0, 0, 0, 1));
                Check.fails("one question more", Edge.STATE, () -> x.question(5, 0, 0, 0));
            });
        Sentence.holds(0, "Sets are told by bits.", () -> {
            for (int bit = 0; bit < 6; bit++) {
                Latticehear x = Edge.sounds(6);
                x.question(0, Latticehear.RIGHT, 1 << bit, 0);
                x.question(0, Latticehear.RIGHT, 63 - (1 << bit), 0);
                for (int behind = 0; behind < 6; behind++) {
                    String letters = "a" + "abcdef".charAt(behind);
                    int due = behind == bit ? 1 : 2;
                    if (behind < 5) {
                        Edge.word(x, letters, 0);
                        Check.same(letters + " by the bit " + bit, x.form(behind, 0, 0), due);
                    } else {
                        Edge.saying(x, 0, letters, 0);
                        Check.same(letters + " by the bit " + bit, x.form(0, 1, 0), due);
                    }
                }
            }
        });
        Sentence.holds(0, "it has a MOVE, -3000 to 3000.", () -> {
            Latticehear x = Edge.sounds(1);
            x.question(0, 0, 0, -3000);
            x.question(0, 0, 0, 3000);
            x.frame(-3000, -3000, -3000);
            x.frame(3000, 3000, 3000);
            Check.same("at the least", x.cost(0, 0, 1), 0);
            Check.same("at the greatest", x.cost(1, 0, 2), 0);
            Edge.refused(Edge.ARGUMENT, "move", n -> x.question(0, 0, 0, n), -3001, 3001);
        });
        Sentence.holds(0, "Where there is no SOUND there, the answer is no.", () -> {
            Latticehear x = Edge.sounds(6);
            x.question(0, Latticehear.LEFT, 63, 0);
            x.question(1, Latticehear.RIGHT, 63, 0);
            Edge.word(x, "ab", 0);
            Edge.saying(x, 0, "ba", 0);
            Check.same("ahead of the first one", x.form(0, 0, 0), 0);
            Check.same("behind the last one", x.form(0, 0, 1), 0);
            Check.same("behind the first one", x.form(0, 1, 0), 1);
            Check.same("ahead of the last one", x.form(0, 1, 1), 1);
            Edge.word(x, "a", 0);
            Edge.saying(x, 1, "b", 0);
            Check.same("ahead of the only one", x.form(1, 0, 0), 0);
            Check.same("behind the only one", x.form(1, 1, 0), 0);
        });
        Sentence.holds(0, "The FORM of a SOUND at a place of a SAYING is 1 and the number (from 0) of its first QUESTION, as they were told, "
            + "that is answered by yes, 0 without one.", EdgesOfTerms::firstQuestion);
        Sentence.holds(0, "In the FORM 0 the SOUND lies at its CENTRE, in another one at its CENTRE with the MOVE of that QUESTION added to "
            + "each of the three numbers.", EdgesOfTerms::beyondTheCentres);
        Sentence.holds(0, "The COST of a FRAME by a SOUND in a FORM is the sum of the squares of how far the three CLEAN NUMBERS are from "
            + "where the SOUND lies, divided by the WIDTH.", EdgesOfTerms::leastAndGreatestCost);
        Sentence.holds(0, "WORDS are numbered from 0, up to 5, each with one or two SAYINGS, numbered from 0.", EdgesOfTerms::fiveOfTwo);
        Sentence.holds(0, "A SAYING has 1 to 4 SOUNDS, in their order, and a price, 0 to 9999.", () -> {
            Latticehear x = Edge.sounds(4);
            Edge.hear(x, new int[5]);
            for (int length = 1; length <= 4; length++) {
                int price = length == 4 ? 9999 : 0;
                int word = Edge.word(x, "dcba".substring(0, length), price);
                Check.same("over one too few", length == 1 ? -1 : x.over(word, 1, length), -1);
                Check.same("over just enough", x.over(word, 1, length + 1), price);
            }
        });
        Sentence.holds(0, "THE TEXT has up to 4 letters, a to f, which are the SOUNDS 0 to 5.", () -> {
            for (char letter = 'a'; letter <= 'f'; letter++) {
                Latticehear x = Edge.sounds(6);
                Edge.word(x, "" + letter + letter + letter + letter, 0);
                Edge.hear(x, new int[4]);
                Check.same("the sound of " + letter, x.path(3, 4), letter - 'a');
                Edge.type(x, "aaaa");
                Check.fails("one letter more", Edge.STATE, () -> x.type('a'));
            }
        });
        Sentence.holds(0, "To say a SAYING over some FRAMES that follow one another is to give each of its SOUNDS, in their order, one or more of "
            + "these, that follow one another, so that all are given.", EdgesOfTerms::eachSoundHasOne);
        Sentence.holds(0, "it has none, if there are too few FRAMES for each of its SAYINGS.", () -> {
            Latticehear x = Edge.sounds(1);
            Edge.word(x, "aaaa", 1);
            Edge.hear(x, new int[4]);
            Check.same("too few by one", x.over(0, 0, 3), -1);
            Check.same("just enough", x.over(0, 0, 4), 1);
            Edge.saying(x, 0, "aa", 9);
            Check.same("too few for both", x.over(0, 0, 1), -1);
            Check.same("just enough for the second one", x.over(0, 0, 2), 9);
            Check.same("too few for the first one by one", x.over(0, 1, 4), 9);
            Check.same("enough for both", x.over(0, 0, 4), 1);
        });
        Sentence.holds(0, "`LEFT = 0, RIGHT = 1`: Sides of QUESTIONS.", () -> {
            Check.same("LEFT", Latticehear.LEFT, 0);
            Check.same("RIGHT", Latticehear.RIGHT, 1);
        });
    }

    private static void firstQuestion() {
        Latticehear x = Edge.sounds(3);
        for (String letters : new String[] {"abc", "bbc", "bba", "b"}) {
            Edge.word(x, letters, 0);
        }
        x.question(1, Latticehear.LEFT, 1, 0);
        x.question(1, Latticehear.RIGHT, 4, 0);
        Check.same("none of two", x.form(2, 0, 1), 0);
        x.question(1, Latticehear.LEFT, 7, 0);
        Check.same("the first one of three by yes", x.form(0, 0, 1), 1);
        Check.same("the first one of two by yes", x.form(1, 0, 1), 2);
        Check.same("the only one by yes, the last of all", x.form(2, 0, 1), 3);
        Check.same("none by yes", x.form(3, 0, 0), 0);
    }

    private static void beyondTheCentres() {
        Latticehear x = new Latticehear();
        x.sound(30000, -30000, 0, 1);
        x.question(0, 0, 0, 3000);
        x.question(0, 0, 0, -3000);
        x.frame(30000, -30000, 0);
        Check.same("at the centre", x.cost(0, 0, 0), 0);
        for (int which = 0; which < 3; which++) {
            x.shift(0, which, -3000);
        }
        Check.same("3000 above it", x.cost(0, 0, 1), 0);
        for (int which = 0; which < 3; which++) {
            x.shift(0, which, 3000);
        }
        Check.same("3000 below it", x.cost(0, 0, 2), 0);
        Check.same("6000 away", x.cost(0, 0, 1), 3L * 6000 * 6000);
    }

    private static void leastAndGreatestCost() {
        Latticehear x = new Latticehear();
        x.sound(30000, 30000, 30000, 1);
        x.sound(30000, 30000, 30000, 99);
        x.sound(-30000, -30000, -30000, 1);
        for (int s = 0; s < 3; s++) {
            x.question(s, 0, 0, s == 2 ? -3000 : 3000);
        }
        x.frame(-30000, -30000, -30000);
        x.frame(30000, 30000, 30000);
        Check.same("the least", x.cost(1, 0, 0), 0);
        for (int which = 0; which < 3; which++) {
            x.shift(0, which, 30000);
            x.shift(1, which, -30000);
        }
        Check.same("the greatest from below", x.cost(0, 0, 1), 25947000000L);
        Check.same("the same by 99", x.cost(0, 1, 1), 262090909L);
        x.speak(1);
        Check.same("the greatest from above", x.cost(1, 2, 1), 25947000000L);
        Edge.word(x, "a", 9999);
        x.silence();
        x.speak(0);
        for (int f = 0; f < 16; f++) {
            x.frame(-30000, -30000, -30000);
        }
        Check.same("over all frames", x.over(0, 0, 16), 16 * 24300000000L + 9999);
    }

    private static void fiveOfTwo() {
        Latticehear x = Edge.sounds(1);
        x.frame(0, 0, 0);
        for (int word = 0; word < 5; word++) {
            Check.same("word", Edge.word(x, "a", 20 + word), word);
        }
        x.type('a');
        Check.fails("one word more", Edge.STATE, () -> x.word(0));
        for (int word = 0; word < 5; word++) {
            int w = word;
            Check.same("over by one saying", x.over(word, 0, 1), 20 + word);
            Check.fails("the saying 1 of one", Edge.INDEX, () -> x.form(w, 1, 0));
            x.saying(word, 10 + word);
            Check.same("over by two", x.over(word, 0, 1), 10 + word);
            Check.same("the saying 1 of two", x.form(word, 1, 0), 0);
            x.type('a');
            Check.fails("one saying more", Edge.STATE, () -> x.saying(w, 0));
        }
    }

    /** The SOUNDS are at 0, 10 and 20, the FRAMES at 20, 10, 0 and 0. */
    private static void eachSoundHasOne() {
        Latticehear x = new Latticehear();
        for (int s = 0; s < 3; s++) {
            x.sound(10 * s, 0, 0, 1);
        }
        Edge.word(x, "abc", 0);
        Edge.hear(x, 20, 10, 0, 0);
        Check.same("over three, one each", x.over(0, 0, 3), 400 + 0 + 400);
        Check.same("over the other three", x.over(0, 1, 4), 100 + 100 + 400);
        Check.same("over four", x.over(0, 0, 4), 400 + 0 + 100 + 400);
        Check.same("over two", x.over(0, 0, 2), -1);
    }
}
