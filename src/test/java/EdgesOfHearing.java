/** The sentences of promises 1 to 7: frames, speakers. */
final class EdgesOfHearing {
    private static final int[] BEYOND = {-30001, 30001, 65536, Edge.LEAST, Edge.GREATEST};

    private EdgesOfHearing() {
    }

    static void run() {
        Sentence.holds(1, "No FRAMES, SOUNDS and WORDS.", EdgesOfHearing::newObject);
        frame();
        Sentence.holds(3, "Forgets all FRAMES; returns how many there were.", EdgesOfHearing::forgetsAll);
        speak();
        shift();
        shiftOf();
        fit();
    }

    private static void newObject() {
        Edge.full();
        Latticehear x = new Latticehear();
        for (int what = 0; what < 5; what++) {
            Check.same("sum(" + what + ")", x.sum(what), 0);
        }
        Check.fails("cost of no frame", Edge.INDEX, () -> x.cost(0, 0, 0));
        Check.fails("question of no sound", Edge.INDEX, () -> x.question(0, 0, 0, 0));
        Check.fails("form of no word", Edge.INDEX, () -> x.form(0, 0, 0));
        Check.same("silence", x.silence(), 0);
        Check.same("the first sound", x.sound(0, 0, 0, 1), 0);
        Check.same("the first letter", x.type('a'), 1);
        Check.same("the first word", x.word(0), 0);
        Check.same("the first frame", x.frame(0, 0, 0), 1);
    }

    // ---- promise 2

    private static void frame() {
        Sentence.holds(2, "Hears a FRAME, behind those that there are.", EdgesOfHearing::behindThoseThereAre);
        Sentence.holds(2, "- `first`: -30000 to 30000", () -> numberOfFrame(0));
        Sentence.holds(2, "- `second`: -30000 to 30000", () -> numberOfFrame(1));
        Sentence.holds(2, "- `third`: -30000 to 30000", () -> numberOfFrame(2));
        Sentence.holds(2, "Returns how many there are then.", EdgesOfHearing::oneToSixteen);
        Sentence.holds(2, "Throws `IllegalArgumentException` if a number is out of range", EdgesOfHearing::frameOutOfRange);
        Sentence.holds(2, "Throws `IllegalStateException` if there are 16", EdgesOfHearing::seventeenthFrame);
    }

    private static int frameWith(Latticehear x, int which, int number) {
        return x.frame(which == 0 ? number : 0, which == 1 ? number : 0, which == 2 ? number : 0);
    }

    private static void behindThoseThereAre() {
        Twin.changesWhatWasAsked("frame", EdgesOfTerms::part, x -> x.frame(3, 2, 1));
        Latticehear x = Edge.sounds(1);
        for (int f = 0; f < 16; f++) {
            x.frame(0, f, 0);
            Check.same("cost of the newest of " + (f + 1), x.cost(f, 0, 0), f * f);
            Check.same("cost of the oldest of " + (f + 1), x.cost(0, 0, 0), 0);
        }
    }

    private static void numberOfFrame(int which) {
        for (int edge : new int[] {-30000, -29999, 29999, 30000}) {
            Latticehear x = Edge.sounds(1);
            Check.same("frame with " + edge, frameWith(x, which, edge), 1);
            Check.same("its cost", x.cost(0, 0, 0), (long) edge * edge);
            x.shift(0, which, edge);
            Check.same("its cost by a shift as great", x.cost(0, 0, 0), 0);
        }
        Latticehear x = Edge.sounds(1);
        Edge.refused(Edge.ARGUMENT, "number " + which + " of a frame", n -> frameWith(x, which, n), BEYOND);
        Check.same("frames behind refused ones", x.sum(0), 0);
    }

    private static void oneToSixteen() {
        Latticehear x = new Latticehear();
        for (int count = 1; count <= 16; count++) {
            Check.same("frame", x.frame(0, 0, 0), count);
        }
        x.silence();
        Check.same("frame behind silence", x.frame(0, 0, 0), 1);
    }

    private static void frameOutOfRange() {
        Latticehear x = Edge.sounds(1);
        Check.fails("all three too great", Edge.ARGUMENT, () -> x.frame(30001, 30001, 30001));
        Check.fails("all three too small", Edge.ARGUMENT, () -> x.frame(-30001, -30001, -30001));
        for (int which = 0; which < 3; which++) {
            int one = which;
            Edge.refused(Edge.ARGUMENT, "one of three", n -> frameWith(x, one, n), -30001, 30001);
        }
        Check.same("the first frame behind refused ones", x.frame(1, 2, 3), 1);
        Check.same("its cost", x.cost(0, 0, 0), 14);
    }

    private static void seventeenthFrame() {
        Latticehear x = Edge.alike(1, 15);
        Check.same("the 16th frame", x.frame(0, 0, 0), 16);
        Check.fails("the 17th frame", Edge.STATE, () -> x.frame(7, 7, 7));
        Check.fails("the 17th frame again", Edge.STATE, () -> x.frame(0, 0, 0));
        Check.same("frames", x.sum(0), 16);
        Check.same("cost of the 16th frame", x.cost(15, 0, 0), 0);
        Check.same("silence", x.silence(), 16);
        Check.same("frame behind silence", x.frame(0, 0, 0), 1);
    }

    // ---- promise 3

    private static void forgetsAll() {
        Twin.changesWhatWasAsked("silence", EdgesOfTerms::part, Latticehear::silence);
        Twin.changesWhatWasAsked("silence of 16", Edge::full, Latticehear::silence);
        Latticehear x = Edge.alike(1, 0);
        Check.same("silence of none", x.silence(), 0);
        Edge.hear(x, new int[16]);
        Check.same("silence of 16", x.silence(), 16);
        Check.same("frames", x.sum(0), 0);
        Check.fails("cost of the first one", Edge.INDEX, () -> x.cost(0, 0, 0));
        Check.same("rows with a weight", x.sum(8), 0);
        Check.same("silence again", x.silence(), 0);
        Edge.hear(x, 5);
        Check.same("silence of one", x.silence(), 1);
        Edge.hear(x, 3);
        Check.same("cost of a new first one", x.cost(0, 0, 0), 9);
    }

    // ---- promise 4

    private static void speak() {
        Sentence.holds(4, "Lets a SPEAKER speak.", () -> {
            Twin.changesWhatWasAsked("speak", EdgesOfTerms::part, x -> x.speak(2));
        });
        Sentence.holds(4, "- `speaker`: 0 to 3", () -> {
            Latticehear x = new Latticehear();
            for (int speaker = 3; speaker >= 0; speaker--) {
                x.speak(speaker);
                Check.same("the speaker", x.sum(5), speaker);
            }
        });
        Sentence.holds(4, "Returns the one who spoke.", () -> {
            Latticehear x = new Latticehear();
            Check.same("the one who spoke at first", x.speak(3), 0);
            Check.same("the last one", x.speak(3), 3);
            Check.same("the same one again", x.speak(0), 3);
            Check.same("the first one", x.speak(1), 0);
        });
        Sentence.holds(4, "Throws `IndexOutOfBoundsException` if there is no such SPEAKER", () -> {
            Latticehear x = new Latticehear();
            x.speak(2);
            Edge.refused(Edge.INDEX, "speak", x::speak, -1, 4, Edge.LEAST, Edge.GREATEST);
            Check.same("the speaker stays", x.sum(5), 2);
        });
    }

    // ---- promise 5

    private static void shift() {
        Sentence.holds(5, "Sets a number of the SHIFT of a SPEAKER.", () -> {
            Twin.changesWhatWasAsked("shift", EdgesOfTerms::part, x -> x.shift(1, 0, -30000));
            Twin.changesWhatWasAsked("shift of one who does not speak", EdgesOfTerms::part, x -> x.shift(3, 2, 30000));
        });
        Sentence.holds(5, "- `speaker`: 0 to 3", EdgesOfHearing::shiftsOfAllSpeakers);
        Sentence.holds(5, "- `which`: 0 to 2", EdgesOfHearing::allNumbersOfAShift);
        Sentence.holds(5, "- `number`: -30000 to 30000", () -> {
            Latticehear x = new Latticehear();
            for (int edge : new int[] {-30000, 30000, -29999, 29999}) {
                x.shift(1, 2, edge);
                Check.same("shiftOf", x.shiftOf(1, 2), edge);
            }
        });
        Sentence.holds(5, "Returns the one before.", () -> {
            Latticehear x = new Latticehear();
            Check.same("at first", x.shift(0, 0, 30000), 0);
            Check.same("the greatest", x.shift(0, 0, -30000), 30000);
            Check.same("the least", x.shift(0, 0, -30000), -30000);
            Check.same("the same again", x.shift(0, 0, 0), -30000);
        });
        Sentence.holds(5, "Throws `IndexOutOfBoundsException` if there is no such SPEAKER", () -> {
            Latticehear x = new Latticehear();
            Edge.refused(Edge.INDEX, "shift of a speaker", n -> x.shift(n, 0, 9), -1, 4, Edge.LEAST, Edge.GREATEST);
        });
        Sentence.holds(5, "Throws `IllegalArgumentException` if which or number is out of range", () -> {
            Latticehear x = new Latticehear();
            x.shift(3, 2, 4);
            Edge.refused(Edge.ARGUMENT, "shift of which", n -> x.shift(3, n, 9), -1, 3, Edge.LEAST, Edge.GREATEST);
            Edge.refused(Edge.ARGUMENT, "shift to a number", n -> x.shift(3, 2, n), BEYOND);
            Check.same("it stays", x.shiftOf(3, 2), 4);
        });
    }

    private static void shiftsOfAllSpeakers() {
        Latticehear x = Edge.sounds(1);
        x.frame(50, 0, 0);
        for (int speaker = 0; speaker < 4; speaker++) {
            x.shift(speaker, 0, 10 * speaker + 1);
        }
        for (int speaker = 0; speaker < 4; speaker++) {
            long clean = 50 - 10 * speaker - 1;
            x.speak(speaker);
            Check.same("shiftOf " + speaker, x.shiftOf(speaker, 0), 10 * speaker + 1);
            Check.same("cost by " + speaker, x.cost(0, 0, 0), clean * clean);
        }
    }

    private static void allNumbersOfAShift() {
        Latticehear x = Edge.sounds(1);
        x.frame(10, 200, 3000);
        for (int which = 0; which < 3; which++) {
            x.shift(0, which, which + 1);
        }
        for (int which = 0; which < 3; which++) {
            Check.same("shiftOf " + which, x.shiftOf(0, which), which + 1);
        }
        Check.same("each is taken off its own number", x.cost(0, 0, 0), 9 * 9 + 198 * 198 + 2997 * 2997);
    }

    // ---- promise 6

    private static void shiftOf() {
        Sentence.holds(6, "- `speaker`: 0 to 3", () -> {
            Latticehear x = shifted();
            Check.same("of the first one", x.shiftOf(0, 1), 1);
            Check.same("of the last one", x.shiftOf(3, 1), 31);
        });
        Sentence.holds(6, "- `which`: 0 to 2", () -> {
            Latticehear x = shifted();
            Check.same("the first one", x.shiftOf(2, 0), 20);
            Check.same("the last one", x.shiftOf(2, 2), 22);
        });
        Sentence.holds(6, "Returns the number.", () -> {
            Latticehear x = shifted();
            for (int speaker = 0; speaker < 4; speaker++) {
                for (int which = 0; which < 3; which++) {
                    Check.same("shiftOf", x.shiftOf(speaker, which), 10 * speaker + which);
                    Check.same("shiftOf again", x.shiftOf(speaker, which), 10 * speaker + which);
                }
            }
        });
        Sentence.holds(6, "Throws `IndexOutOfBoundsException` if there is no such SPEAKER", () -> {
            Latticehear x = shifted();
            Edge.refused(Edge.INDEX, "shiftOf a speaker", n -> x.shiftOf(n, 0), -1, 4, Edge.LEAST, Edge.GREATEST);
        });
        Sentence.holds(6, "Throws `IllegalArgumentException` if which is out of range", () -> {
            Latticehear x = shifted();
            Edge.refused(Edge.ARGUMENT, "shiftOf which", n -> x.shiftOf(3, n), -1, 3, Edge.LEAST, Edge.GREATEST);
        });
    }

    private static Latticehear shifted() {
        Latticehear x = new Latticehear();
        for (int speaker = 0; speaker < 4; speaker++) {
            for (int which = 0; which < 3; which++) {
                x.shift(speaker, which, 10 * speaker + which);
            }
        }
        return x;
    }

    // ---- promise 7

    private static void fit() {
        Sentence.holds(7, "Fits the SPEAKER who speaks", () -> {
            Twin.changesWhatWasAsked("fit", EdgesOfTerms::part, Latticehear::fit);
            Twin.changesWhatWasAsked("fit of all", Edge::full, Latticehear::fit);
        });
        Sentence.holds(7, "each number of the SHIFT is more by the sum, over all FRAMES, of how much the CLEAN NUMBER is above "
            + "where the SOUND lies that the FRAME is given to by the BEST PATH", EdgesOfHearing::fitsTwice);
        Sentence.holds(7, "(below 0, if it is below)", EdgesOfHearing::fitsBelow);
        Sentence.holds(7, "divided by the number of FRAMES", EdgesOfHearing::dividedByFrames);
        Sentence.holds(7, "but it is -30000 at least, and 30000 at most.", EdgesOfHearing::fitsWithinTheRange);
        Sentence.holds(7, "Returns the WEIGHT of the BEST ROW then.", EdgesOfHearing::anotherRowIsBestThen);
        Sentence.holds(7, "Throws `IllegalStateException` if there is no BEST ROW", EdgesOfHearing::nothingToFit);
    }

    /** The second time nothing is above any more. */
    private static void fitsTwice() {
        Latticehear x = Edge.small();
        x.silence();
        x.speak(3);
        x.frame(1, 100, -7);
        x.frame(13, 100, -7);
        x.frame(11, 100, -7);
        x.shift(3, 1, 40);
        for (int time = 0; time < 2; time++) {
            Check.same("fit", x.fit(), 1 + 1 + 1 + 1);
            Check.same("shift 0 by 1, 3 and 1", x.shiftOf(3, 0), 1);
            Check.same("shift 1 from 40", x.shiftOf(3, 1), 100);
            Check.same("shift 2", x.shiftOf(3, 2), -7);
        }
        Check.same("another speaker", x.shiftOf(0, 1), 0);
    }

    private static void fitsBelow() {
        Latticehear x = Edge.alike(1, 0);
        x.frame(-5, 5, 0);
        x.shift(0, 2, 9);
        Check.same("fit", x.fit(), 5000);
        Check.same("below", x.shiftOf(0, 0), -5);
        Check.same("above", x.shiftOf(0, 1), 5);
        Check.same("back to 0", x.shiftOf(0, 2), 0);
    }

    private static void dividedByFrames() {
        int[][] cases = {{-1, 1, -1}, {-1, 2, -1}, {1, 2, 0}, {-3, 2, -2}, {3, 2, 1}, {-16, 16, -1}, {-17, 16, -2}, {-15, 16, -1},
            {15, 16, 0}, {16, 16, 1}, {31, 16, 1}, {0, 16, 0}};
        for (int[] one : cases) {
            Latticehear x = Edge.alike(1, one[1] - 1);
            x.frame(one[0], -one[0], 0);
            x.fit();
            Check.same(one[0] + " by " + one[1], x.shiftOf(0, 0), one[2]);
            Check.same(-one[0] + " by " + one[1], x.shiftOf(0, 1), (int) Math.floor(-one[0] / (double) one[1]));
        }
    }

    /** A SHIFT, the FRAME, where the SOUND lies, and the SHIFT then. */
    private static void fitsWithinTheRange() {
        int[][] cases = {{0, 30000, 0, 30000}, {0, 30000, -1, 30000}, {0, 30000, -30000, 30000}, {0, -30000, 0, -30000},
            {0, -30000, 1, -30000}, {0, -30000, 30000, -30000}, {0, 29999, 0, 29999}, {0, -29999, 0, -29999},
            {30000, 30000, 0, 30000}, {-30000, 30000, -30000, 30000}, {30000, -30000, 30000, -30000}, {30000, -30000, 29999, -30000}};
        for (int[] one : cases) {
            for (int which = 0; which < 3; which++) {
                Latticehear x = new Latticehear();
                x.sound(which == 0 ? one[2] : 0, which == 1 ? one[2] : 0, which == 2 ? one[2] : 0, 99);
                Edge.word(x, "a", 0);
                x.shift(0, which, one[0]);
                frameWith(x, which, one[1]);
                x.fit();
                Check.same("from " + one[0] + " to " + one[1] + " less " + one[2], x.shiftOf(0, which), one[3]);
            }
        }
    }

    /** At first a, over both FRAMES, takes 101 and bc, at -50 and 50, takes 5010; then 50 and 10. */
    private static void anotherRowIsBestThen() {
        Latticehear x = new Latticehear();
        x.sound(0, 0, 0, 99);
        x.sound(-50, 0, 0, 1);
        x.sound(50, 0, 0, 1);
        Edge.word(x, "a", 0);
        Edge.word(x, "bc", 10);
        Edge.hear(x, 0, 100);
        x.factor(0);
        Check.same("the best row at first", x.best(0), 1);
        Check.same("its weight", x.weight(1), 101);
        Check.same("fit", x.fit(), 10);
        Check.same("the best row then", x.best(0), 2);
        Check.same("its weight", x.weight(2), 10);
    }

    private static void nothingToFit() {
        Latticehear x = Edge.sounds(1);
        Check.fails("fit without frames and words", Edge.STATE, x::fit);
        Edge.word(x, "aaa", 0);
        Check.fails("fit without frames", Edge.STATE, x::fit);
        Edge.hear(x, 3, 3);
        Check.fails("fit with too few frames", Edge.STATE, x::fit);
        Check.same("the shift stays", x.shiftOf(0, 0), 0);
        Edge.hear(x, 3);
        Check.same("fit with just enough", x.fit(), 5000);
        Check.same("the shift", x.shiftOf(0, 0), 3);
        Latticehear y = new Latticehear();
        Edge.hear(y, 1);
        Check.fails("fit without words", Edge.STATE, y::fit);
    }
}
