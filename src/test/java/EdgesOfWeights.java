/** The sentences ahead of the promises on the language, the ROWS, the search and the lattice. */
final class EdgesOfWeights {
    private EdgesOfWeights() {
    }

    static void run() {
        language();
        rows();
        bestPath();
        search();
        lattice();
    }

    // ---- language

    private static void language() {
        Sentence.holds(0, "A ROW is 1 to 4 WORDS; it is told as a number whose digits are the WORDS, each with 1 added, the first WORD being "
            + "the first digit.", () -> {
                Latticehear x = Edge.alike(5, 4);
                x.back(99999);
                x.learn(5);
                Check.same("one word", x.best(0), 5);
                x.silence();
                Edge.hear(x, new int[4]);
                x.learn(1234);
                Check.same("four words", x.errors(1234) + x.errors(5), 4);
                Edge.refused(Edge.ARGUMENT, "no word, or five", x::learn, 0, 12345, 10000, 11111);
                Check.same("pairs", x.sum(3), 7);
                Latticehear y = Edge.alike(5, 2);
                y.back(99999);
                y.learn(51);
                Check.same("the first digit", y.path(0, 1), 4);
                Check.same("the last digit", y.path(1, 1), 0);
            });
        Sentence.holds(0, "To learn a ROW counts its pairs: the START and its first WORD, each WORD and the one behind it, its last WORD and "
            + "the END.", EdgesOfWeights::pairsOfRows);
        Sentence.holds(0, "LG of n, 1 or more, is, with 2 to the power of b being the greatest power of 2 that is not above n: 8 times b, and 8 "
            + "times n divided by that power, together, less 8.", EdgesOfWeights::logarithms);
        Sentence.holds(0, "if their pair was counted, 100 times (LG of how many pairs were counted that begin with the one ahead, less LG of how "
            + "often this pair was)", () -> {
                Latticehear x = Edge.alike(2, 0);
                x.back(99999);
                x.learn(1);
                Check.same("once of once", x.price(-1, 0), 0);
                x.learn(2);
                Check.same("once of twice", x.price(-1, 0), 800);
                x.learn(2);
                Check.same("once of three times", x.price(-1, 0), 1200);
                Check.same("twice of three times", x.price(-1, 1), 400);
                Check.same("twice of twice", x.price(1, -1), 0);
            });
        Sentence.holds(0, "otherwise the BACK, 0 to 99999, 500 at first, and 100 times (LG of how many pairs were counted at all, and 6, "
            + "together, less LG of how many pairs were counted that end with the one behind, and 1, together).", () -> {
                Latticehear x = Edge.alike(2, 0);
                Check.same("no pair at all", x.price(0, 1), 500 + 100 * (20 - 0));
                x.back(0);
                Check.same("without the back", x.price(0, 1), 2000);
                x.back(99999);
                x.learn(2);
                Check.same("with the greatest back, 8 and 2", x.price(0, 1), 99999 + 100 * (24 - 8));
                Check.same("none that end with it", x.price(0, 0), 99999 + 100 * (24 - 0));
                Check.same("just one pair more", x.price(1, -1), 0);
            });
        Sentence.holds(0, "The FACTOR is 0 to 99, 1 at first.", () -> {
            Latticehear x = Edge.alike(1, 1);
            Check.same("at first", x.weight(1), 5000);
            Check.same("at first", x.sum(7), 1);
            x.factor(0);
            Check.same("the least", x.weight(1), 0);
            x.factor(99);
            Check.same("the greatest", x.weight(1), 495000);
            Edge.refused(Edge.ARGUMENT, "factor", x::factor, -1, 100);
            Check.same("the greatest stays", x.weight(1), 495000);
        });
    }

    private static void pairsOfRows() {
        Latticehear x = Edge.alike(4, 0);
        x.back(99999);
        x.learn(1);
        Check.same("the start and the only word", x.price(-1, 0), 0);
        Check.same("the only word and the end", x.price(0, -1), 0);
        Check.that("not the only word twice", x.price(0, 0) >= 99999);
        Check.that("not the start and the end", x.price(-1, -1) >= 99999);
        x.learn(3424);
        int[][] pairs = {{-1, 2}, {2, 3}, {3, 1}, {1, 3}, {3, -1}};
        long[] due = {800, 0, 800, 0, 800};
        for (int i = 0; i < pairs.length; i++) {
            Check.same("the pair " + i, x.price(pairs[i][0], pairs[i][1]), due[i]);
        }
        Check.that("none the other way", x.price(1, 2) >= 99999 && x.price(3, 2) >= 99999 && x.price(2, -1) >= 99999);
    }

    /** One pair of n that begin with the START: 100 times LG of n, for LG of 1 is 0. */
    private static void logarithms() {
        int[] due = {0, 8, 12, 16, 18, 20, 22, 24, 25, 26, 27, 28, 29, 30, 31, 32, 32, 33, 33, 34, 34, 35, 35, 36, 36, 37, 37, 38, 38, 39, 39,
            40, 40};
        Latticehear x = Edge.alike(2, 0);
        x.learn(2);
        for (int n = 1; n <= due.length; n++) {
            Check.same("LG of " + n, x.price(-1, 1), 100L * due[n - 1]);
            x.learn(1);
        }
        for (int n = due.length + 1; n <= 256; n++) {
            int power = Integer.highestOneBit(n);
            Check.same("LG of " + n, x.price(-1, 1), 100L * (8 * Integer.numberOfTrailingZeros(power) + 8 * n / power - 8));
            x.learn(1);
        }
    }

    // ---- rows

    private static void rows() {
        Sentence.holds(0, "A PATH of a ROW gives each of its WORDS, in their order, one or more FRAMES that follow one another, so that all FRAMES "
            + "are given, and each WORD has a COST over its own ones.", EdgesOfWeights::eachWordHasOne);
        Sentence.holds(0, "The WEIGHT of a ROW is the least of its PATHS; a ROW without a PATH has none.", () -> {
            Latticehear x = Edge.sounds(1);
            Edge.word(x, "aa", 0);
            Edge.word(x, "a", 0);
            x.factor(0);
            Check.same("without frames", x.weight(2), -1);
            Edge.hear(x, 1, 1, 1);
            int[][] due = {{1, 3}, {2, 3}, {12, 3}, {222, 3}, {11, -1}, {122, -1}, {212, -1}, {221, -1}, {2222, -1}, {1111, -1}};
            for (int[] one : due) {
                Check.same("weight(" + one[0] + ")", x.weight(one[0]), one[1]);
                Check.same("weightAnew(" + one[0] + ")", x.weightAnew(one[0]), one[1]);
            }
            Check.same("rows with a weight", x.sum(8), 2 + 3 + 1);
        });
        Sentence.holds(0, "ROWS with a WEIGHT are in order by it, then by how many WORDS they have, the fewest first, then by their numbers.",
            EdgesOfWeights::order);
        Sentence.holds(0, "The BEST ROW is the first one.", () -> {
            Latticehear x = Edge.alike(5, 4);
            x.factor(0);
            Check.same("of all alike", x.best(0), 1);
            Check.same("errors of it", x.errors(1), 0);
            Check.same("its word", x.path(3, 1), 0);
            x.factor(1);
            x.learn(5);
            Check.same("of one weight less", x.best(0), 5);
            Check.same("errors of it", x.errors(5), 0);
            Check.same("its word", x.path(3, 1), 4);
            x.factor(0);
            Check.same("of all alike again", x.best(0), 1);
            Check.same("its word", x.path(3, 1), 0);
        });
    }

    private static void eachWordHasOne() {
        Latticehear x = Edge.small();
        x.silence();
        Edge.hear(x, 10, 0, 10, 0);
        int[][] due = {{1212, 400}, {2121, 0}, {12, 200}, {21, 100}, {1, 200}, {212, 100}, {121, 100}, {1111, 200}};
        for (int[] one : due) {
            Check.same("weight(" + one[0] + ")", x.weight(one[0]), one[1]);
            Check.same("weightAnew(" + one[0] + ")", x.weightAnew(one[0]), one[1]);
        }
    }

    private static void order() {
        Latticehear x = Edge.alike(2, 3);
        x.factor(0);
        int[] alike = {1, 2, 11, 12, 21, 22, 111, 112, 121, 122, 211, 212, 221, 222, -1};
        for (int place = 0; place < alike.length; place++) {
            Check.same("of one weight, best(" + place + ")", x.best(place), alike[place]);
        }
        Latticehear y = Edge.small();
        int[] due = {12, 122, 2, 22, 112, 121, 222, 1, 11, 21, 111, 212, 221, 211, -1};
        for (int place = 0; place < due.length; place++) {
            Check.same("best(" + place + ")", y.best(place), due[place]);
        }
    }

    // ---- the best path

    private static void bestPath() {
        Sentence.holds(0, "The BEST PATH is, of the PATHS of the BEST ROW with its WEIGHT, the one whose first WORD has the fewest FRAMES, of "
            + "several the one whose second WORD has the fewest, and so on.", () -> {
                placesOfWords(1234, 16, 1, 2, 3);
                placesOfWords(123, 16, 1, 2);
                placesOfWords(12, 16, 1);
                placesOfWords(1, 16);
                placesOfWords(1234, 4, 1, 2, 3);
                Latticehear x = Edge.small();
                x.silence();
                Edge.hear(x, 0, 5, 10, 5, 0);
                Check.same("the best row", x.best(0), 121);
                for (int frame = 0; frame < 5; frame++) {
                    Check.same("path(" + frame + ", 0)", x.path(frame, 0), new int[] {0, 1, 1, 2, 2}[frame]);
                }
            });
        Sentence.holds(0, "In it each WORD is said by the SAYING that takes the least, of two the lower one", () -> {
            sayingThatIsChosen(5, 5, 0);
            sayingThatIsChosen(5, 6, 0);
            sayingThatIsChosen(6, 5, 1);
            sayingThatIsChosen(0, 9999, 0);
            sayingThatIsChosen(9999, 0, 1);
            Latticehear x = Edge.sounds(2);
            Edge.word(x, "aaaa", 0);
            Edge.saying(x, 0, "b", 9999);
            Edge.hear(x, new int[3]);
            Check.same("the only one that there are enough for", x.path(2, 2), 1);
        });
        Sentence.holds(0, "in that SAYING, of several ways to say it that take as much, the one in which the first SOUND has the fewest FRAMES, of "
            + "several the one in which the second SOUND has, and so on.", () -> {
                placesOfSounds("abcd", 16, 1, 2, 3);
                placesOfSounds("abc", 16, 1, 2);
                placesOfSounds("aa", 16, 1);
                placesOfSounds("a", 16);
                placesOfSounds("dcba", 4, 1, 2, 3);
                Latticehear x = Edge.small();
                Edge.word(x, "aba", 0);
                x.learn(3);
                x.factor(9);
                x.silence();
                Edge.hear(x, 0, 5, 10, 5, 0);
                for (int frame = 0; frame < 5; frame++) {
                    Check.same("path(" + frame + ", 3)", x.path(frame, 3), new int[] {0, 1, 1, 2, 2}[frame]);
                }
                x.silence();
                Edge.hear(x, 5, 4, 10, 0);
                for (int frame = 0; frame < 4; frame++) {
                    Check.same("of fewer that take more path(" + frame + ", 3)", x.path(frame, 3), new int[] {0, 0, 1, 2}[frame]);
                }
            });
    }

    private static int placeOf(int frame, int[] cuts) {
        int place = 0;
        for (int cut : cuts) {
            place += frame >= cut ? 1 : 0;
        }
        return place;
    }

    private static void placesOfWords(int row, int frames, int... cuts) {
        Latticehear x = Edge.alike(4, frames);
        x.back(99999);
        x.learn(row);
        for (int frame = 0; frame < frames; frame++) {
            Check.same("of " + row + " path(" + frame + ", 0)", x.path(frame, 0), placeOf(frame, cuts));
            Check.same("of " + row + " path(" + frame + ", 3)", x.path(frame, 3), 0);
        }
    }

    private static void sayingThatIsChosen(int first, int second, int due) {
        Latticehear x = Edge.sounds(2);
        Edge.word(x, "ab", first);
        Edge.saying(x, 0, "b", second);
        Edge.hear(x, new int[2]);
        Check.same("of " + first + " and " + second, x.path(0, 2), due);
        Check.same("its sound", x.path(0, 4), due);
    }

    private static void placesOfSounds(String letters, int frames, int... cuts) {
        Latticehear x = Edge.sounds(4);
        Edge.word(x, letters, 0);
        Edge.hear(x, new int[frames]);
        for (int frame = 0; frame < frames; frame++) {
            Check.same("of " + letters + " path(" + frame + ", 3)", x.path(frame, 3), placeOf(frame, cuts));
        }
    }

    // ---- the search

    private static void search() {
        Sentence.holds(0, "The search with a BEAM and a MOST: it goes through the numbers of FRAMES t from 1 to all.", () -> {
            for (int frames = 1; frames <= 16; frames++) {
                Latticehear x = Edge.alike(2, frames);
                x.factor(0);
                // one of 1 and 2 at 1, three of 1, 2, 11 and 12 behind it
                Check.same("dropped of " + frames, x.found(Long.MAX_VALUE, 1, 2), 1 + 3 * (frames - 1));
            }
            Check.same("dropped of none", Edge.alike(2, 0).found(Long.MAX_VALUE, 1, 2), 0);
        });
        Sentence.holds(0, "An END at t is a ROW, said over the first t FRAMES, with a WEIGHT as of a PATH, but without the PRICE of the END; it is a "
            + "kept END of fewer FRAMES with one WORD more, said over the FRAMES between, or one WORD alone.", () -> {
                // the rows 1 to 1111 end at 2500 to 10000, and none has five words
                Latticehear x = Edge.alike(1, 16);
                Check.same("none is too dear", x.found(7500, 99, 2), 0);
                Check.same("the row of four words is", x.found(7499, 99, 2), 13);
                Check.same("that of three too, and so there is none of four", x.found(4999, 99, 2), 14);
                Check.same("that of two too, and so there is none of three", x.found(2499, 99, 2), 15);
                Latticehear y = Edge.small();
                y.silence();
                Edge.hear(y, 0, 10, 0, 10, 0, 10, 0, 10);
                Check.same("a row of four words", y.found(Long.MAX_VALUE, 99, 0), 1212);
                Check.same("two of its frames are far from it", y.found(Long.MAX_VALUE, 99, 1), 200);
                Check.same("as the best row", y.best(0), 1212);
                Check.same("its weight", y.weight(1212), 200);
            });
        Sentence.holds(0, "Of all such with the same last WORD and as many WORDS the one with the least WEIGHT, of several the one with the lowest "
            + "number, is the END; the others are none.", EdgesOfWeights::oneOfEachKind);
        Sentence.holds(0, "Of the ENDS at t those whose WEIGHT is more than BEAM above the least WEIGHT of the ENDS at t are DROPPED", () -> {
            Latticehear x = Edge.small();
            x.silence();
            x.frame(4, 0, 0);
            Check.same("20 above, not more than 20", x.found(20, 99, 2), 0);
            Check.same("20 above, more than 19", x.found(19, 99, 2), 1);
            x.silence();
            x.frame(5, 0, 0);
            Check.same("as much, not more than 0", x.found(0, 99, 2), 0);
        });
        Sentence.holds(0, "of the others, in the order of ROWS, the first MOST are kept, the rest are DROPPED, too.", EdgesOfWeights::mostAreKept);
        Sentence.holds(0, "What is FOUND is, of the ENDS that are kept at the last t, the ROW with the least WEIGHT with the PRICE of the END, of "
            + "several the first one in the order of ROWS.", () -> {
                Latticehear x = Edge.alike(3, 3);
                x.factor(0);
                Check.same("of all alike", x.found(0, 99, 0), 1);
                x.factor(1);
                Check.same("of three alike", x.found(0, 99, 0), 1);
                Check.same("with the price of the end", x.found(0, 99, 1), 5000);
                for (int row : new int[] {1, 11, 2, 2}) {
                    x.learn(row);
                }
                Check.same("the one with the lower price of the end", x.found(0, 99, 0), 2);
                Check.same("with this", x.found(0, 99, 1), 800);
                Latticehear y = Edge.small();
                y.silence();
                Edge.hear(y, 10, 0, 0);
                Check.same("the least one, and not the lowest number", y.found(Long.MAX_VALUE, 99, 0), 21);
                Check.same("its weight", y.found(Long.MAX_VALUE, 99, 1), 0);
                y.silence();
                Edge.hear(y, 10, 0, 10);
                Check.same("of three words", y.found(Long.MAX_VALUE, 99, 0), 212);
            });
    }

    /** At 2 the rows 11 and 21 are of one kind, and 12 and 22. */
    private static void oneOfEachKind() {
        Latticehear x = Edge.alike(2, 2);
        x.factor(0);
        Check.same("two of the four ends at 2 are dropped", x.found(0, 2, 2), 2);
        Check.same("one of the four", x.found(0, 3, 2), 1);
        Check.same("none of the four", x.found(0, 4, 2), 0);
        for (int words = 1; words <= 5; words++) {
            for (int frames = 1; frames <= 16; frames += 5) {
                Latticehear each = Edge.alike(words, frames);
                each.factor(0);
                Check.same("one for each last word of two", each.found(0, words, 2), words * (frames - 1));
            }
        }
        Latticehear y = Edge.alike(3, 3);
        y.back(99999);
        y.learn(13);
        y.learn(23);
        Check.same("the lower number of two that weigh as much", y.found(0, 99, 0), 13);
        y.learn(23);
        Check.same("the one that weighs less", y.found(99999, 99, 0), 23);
        Check.same("its weight", y.found(99999, 99, 1), 400);
    }

    /** The row 1 ends as light as 2 and 23, but has the END at a higher PRICE than these. */
    private static void mostAreKept() {
        Latticehear x = Edge.alike(2, 1);
        for (int row : new int[] {1, 11, 2, 2}) {
            x.learn(row);
        }
        Check.same("the lowest number alone", x.found(Long.MAX_VALUE, 1, 0), 1);
        Check.same("its weight", x.found(Long.MAX_VALUE, 1, 1), 800 + 400);
        Check.same("dropped", x.found(Long.MAX_VALUE, 1, 2), 1);
        Check.same("both", x.found(Long.MAX_VALUE, 2, 0), 2);
        Check.same("none is dropped", x.found(Long.MAX_VALUE, 2, 2), 0);
        Latticehear y = Edge.alike(3, 2);
        for (int row : new int[] {1, 11, 23, 23}) {
            y.learn(row);
        }
        Check.same("the fewest words first", y.found(Long.MAX_VALUE, 2, 0), 1);
        Check.same("its weight", y.found(Long.MAX_VALUE, 2, 1), 800 + 400);
        Check.same("two words too", y.found(Long.MAX_VALUE, 3, 0), 23);
        Check.same("its weight", y.found(Long.MAX_VALUE, 3, 1), 800);
        Latticehear z = Edge.small();
        Check.same("the least weight first", z.found(Long.MAX_VALUE, 1, 0), 12);
        Check.same("dropped by the beam, and by the most", z.found(100, 1, 2), 9);
    }

    // ---- the lattice

    private static void lattice() {
        Sentence.holds(0, "Its SLACK is the least WEIGHT of all PATHS of all ROWS in which this WORD has just these FRAMES, at any place of the "
            + "ROW, less the WEIGHT of the BEST ROW.", EdgesOfWeights::slacks);
        Sentence.holds(0, "The lattice of a BEAM has all ARCS with a SLACK that is not above BEAM, in the order of the FRAMES where they begin, then "
            + "of those ahead of which they end, then of WORDS.", () -> {
                Latticehear x = Edge.small();
                int[][] due = {{0, 0, 1}, {1, 0, 1}, {0, 0, 2}, {1, 0, 2}, {1, 0, 3}, {0, 1, 2}, {1, 1, 2}, {1, 1, 3}, {0, 2, 3}, {1, 2, 3}};
                Check.same("of 100", x.arcs(100), due.length);
                Check.same("of 99", x.arcs(99), 4);
                for (int arc = 0; arc < due.length; arc++) {
                    for (int what = 0; what < 3; what++) {
                        Check.same("arc(100, " + arc + ", " + what + ")", x.arc(100, arc, what), due[arc][what]);
                    }
                }
            });
    }

    /** Of the row 1234 over 16 alike FRAMES all ARCS have a SLACK of 0, those of each place of the ROW. */
    private static void slacks() {
        Latticehear x = Edge.alike(5, 16);
        x.back(99999);
        x.learn(1234);
        Check.same("the arcs of the best row", x.arcs(0), 13 + 91 + 91 + 13);
        for (int word = 0; word < 4; word++) {
            Check.same("the word at place " + word, x.keyword(word), 0);
        }
        x.factor(0);
        Check.same("without prices", x.keyword(4), 0);
        x.factor(1);
        x.back(0);
        long start = 100 * (27 - 0);
        long end = 100 * (27 - 8);
        Check.same("the prices of the row 5", x.price(-1, 4) + x.price(4, -1), start + end);
        Check.same("the least slack of a word", x.keyword(4), start + end);
        x.learn(1);
        Check.same("the best row of another weight", x.weight(x.best(0)), 800);
        Check.same("the slack less this", x.keyword(4), x.weight(5) - 800);
    }
}
