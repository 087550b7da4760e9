/** The sentences of promises 23 to 27: the search, the lattice. */
final class EdgesOfSearch {
    /** Its low half is 0. */
    private static final long BEYOND_INT = 1L << 32;
    private static final long[] BELOW_0 = {-1, -2, -BEYOND_INT, -BEYOND_INT + 1, Long.MIN_VALUE};
    /** Of small: WORD, first FRAME, the one behind the last, SLACK. */
    private static final long[][] ARCS = {{0, 0, 1, 0}, {1, 0, 1, 100}, {0, 0, 2, 100}, {1, 0, 2, 100}, {0, 0, 3, 200}, {1, 0, 3, 100},
        {0, 1, 2, 100}, {1, 1, 2, 0}, {0, 1, 3, 200}, {1, 1, 3, 0}, {0, 2, 3, 100}, {1, 2, 3, 0}};

    private EdgesOfSearch() {
    }

    /** A call with one long number left open. */
    private interface OpenLong {
        long with(long number);
    }

    private static void refusedBelow0(String call, OpenLong open) {
        for (long beam : BELOW_0) {
            Check.fails(call + " with a beam of " + beam, Edge.ARGUMENT, () -> open.with(beam));
        }
    }

    static void run() {
        found();
        arcs();
        arc();
        keyword();
        sure();
    }

    // ---- promise 23

    private static void found() {
        Sentence.holds(23, "- `beam`: 0 or more", () -> {
            Latticehear x = Edge.small();
            Check.same("dropped by the least", x.found(0, 99, 2), 8);
            Check.same("dropped by 100", x.found(100, 99, 2), 2);
            Check.same("dropped by the greatest", x.found(Long.MAX_VALUE, 99, 2), 0);
            Check.same("dropped by one beyond an int", x.found(BEYOND_INT, 99, 2), 0);
            Check.same("dropped by another one", x.found(Edge.GREATEST + 1L, 99, 2), 0);
        });
        Sentence.holds(23, "- `most`: 1 or more", () -> {
            Latticehear x = Edge.small();
            Check.same("dropped by the least", x.found(Long.MAX_VALUE, 1, 2), 9);
            Check.same("dropped by one more", x.found(Long.MAX_VALUE, 2, 2), 6);
            Check.same("dropped by as many as there are", x.found(Long.MAX_VALUE, 6, 2), 0);
            Check.same("dropped by the greatest", x.found(Long.MAX_VALUE, Edge.GREATEST, 2), 0);
        });
        Sentence.holds(23, "- `what`: 0 the ROW that is FOUND; 1 its WEIGHT, with the PRICE of the END, as it was FOUND; 2 how many ENDS "
            + "were DROPPED, at all t together", EdgesOfSearch::foundOtherThanBest);
        Sentence.holds(23, "Returns as told; 0 and 1: NONE if none is FOUND.", () -> {
            Latticehear x = new Latticehear();
            noneIsFound(x);
            x.frame(0, 0, 0);
            noneIsFound(x);
            x.sound(0, 0, 0, 1);
            Edge.word(x, "aa", 0);
            noneIsFound(x);
            x.frame(0, 0, 0);
            Check.same("the row then", x.found(0, 1, 0), 1);
            Check.same("its weight", x.found(0, 1, 1), 5000);
            x.silence();
            noneIsFound(x);
        });
        Sentence.holds(23, "Throws `IllegalArgumentException` if beam, most or what is out of range", () -> {
            for (Latticehear x : new Latticehear[] {Edge.small(), new Latticehear()}) {
                refusedBelow0("found", n -> x.found(n, 1, 0));
                Edge.refused(Edge.ARGUMENT, "most", n -> x.found(0, n, 0), 0, -1, Edge.LEAST);
                Edge.refused(Edge.ARGUMENT, "what", n -> x.found(0, 1, n), -1, 3, Edge.LEAST, Edge.GREATEST);
            }
        });
    }

    private static void noneIsFound(Latticehear x) {
        Check.same("the row", x.found(Long.MAX_VALUE, 9, 0), -1);
        Check.same("its weight", x.found(Long.MAX_VALUE, 9, 1), -1);
        Check.same("dropped", x.found(0, 1, 2), 0);
    }

    /**
     * The WEIGHT as it was FOUND is not that of the ROW: a over the first two FRAMES, with which the best PATH begins,
     * is dropped, for c takes less over them.
     */
    private static void foundOtherThanBest() {
        Latticehear x = new Latticehear();
        for (int centre : new int[] {0, 100, 5}) {
            x.sound(centre, 0, 0, 1);
            Edge.word(x, "abc".substring(x.sum(2), x.sum(2) + 1), 0);
        }
        Edge.hear(x, 0, 10, 100);
        x.back(99999);
        for (int row : new int[] {12, 3, 122, 3}) {
            x.learn(row);
        }
        Check.same("the price of the start and a, or c", x.price(-1, 0) * x.price(-1, 2), 800 * 800);
        Check.same("the price of b and the end", x.price(1, -1), 400);
        Check.same("the weight of the best row", x.weight(x.best(0)), 800 + 100 + 400);
        long[][] due = {{Long.MAX_VALUE, 99, 12, 1300, 0}, {Long.MAX_VALUE, 1, 12, 800 + 8100 + 400, 2 + 5 + 5}};
        for (long[] one : due) {
            for (int what = 0; what < 3; what++) {
                Check.same("found of " + one[1] + ", " + what, x.found(one[0], (int) one[1], what), one[2 + what]);
            }
        }
    }

    // ---- promise 24

    private static void arcs() {
        Sentence.holds(24, "- `beam`: 0 or more", () -> {
            Latticehear x = Edge.small();
            long[][] due = {{0, 4}, {1, 4}, {99, 4}, {100, 10}, {101, 10}, {199, 10}, {200, 12}, {Edge.GREATEST, 12},
                {Edge.GREATEST + 1L, 12}, {BEYOND_INT, 12}, {Long.MAX_VALUE, 12}};
            for (long[] one : due) {
                Check.same("arcs(" + one[0] + ")", x.arcs(one[0]), one[1]);
            }
        });
        Sentence.holds(24, "Returns how many; 0 without a BEST ROW.", () -> {
            Latticehear x = Edge.alike(5, 16);
            x.factor(0);
            Check.same("the most that there can be", x.arcs(0), 5 * 136);
            x.silence();
            Check.same("without frames", x.arcs(Long.MAX_VALUE), 0);
            Latticehear y = new Latticehear();
            Check.same("of a new object", y.arcs(Long.MAX_VALUE), 0);
            y.frame(0, 0, 0);
            y.sound(0, 0, 0, 1);
            Check.same("without words", y.arcs(0), 0);
            Edge.word(y, "aa", 0);
            Check.same("with too few frames", y.arcs(0), 0);
            y.frame(0, 0, 0);
            Check.same("with just enough", y.arcs(0), 1);
            y.frame(0, 0, 0);
            Check.same("none that leaves a frame to no word", y.arcs(Long.MAX_VALUE), 1);
        });
        Sentence.holds(24, "Throws `IllegalArgumentException` if beam is below 0", () -> {
            refusedBelow0("arcs", Edge.small()::arcs);
            refusedBelow0("arcs of a new object", new Latticehear()::arcs);
        });
    }

    // ---- promise 25

    private static void arc() {
        Sentence.holds(25, "- `beam`: 0 or more", () -> {
            Latticehear x = Edge.small();
            Check.same("the last one of the least", x.arc(0, 3, 1), 2);
            Check.same("the second one of the least", x.arc(0, 1, 0), 1);
            Check.same("the second one of one beyond an int", x.arc(BEYOND_INT, 1, 3), 100);
            Check.same("the last one of the greatest", x.arc(Long.MAX_VALUE, 11, 2), 3);
        });
        Sentence.holds(25, "- `arc`: from 0, in their order", () -> {
            Latticehear x = Edge.alike(5, 16);
            x.factor(0);
            long[][] due = {{0, 0, 0, 1}, {4, 4, 0, 1}, {5, 0, 0, 2}, {79, 4, 0, 16}, {80, 0, 1, 2}, {674, 4, 14, 16}, {679, 4, 15, 16}};
            for (long[] one : due) {
                for (int what = 0; what < 3; what++) {
                    Check.same("arc " + one[0], x.arc(0, (int) one[0], what), one[1 + what]);
                }
            }
        });
        Sentence.holds(25, "- `what`: 0 its WORD; 1 the FRAME where it begins; 2 the one ahead of which it ends; 3 its SLACK",
            () -> allOfSmall(Long.MAX_VALUE));
        Sentence.holds(25, "Returns as told.", () -> {
            allOfSmall(0);
            allOfSmall(99);
            allOfSmall(100);
        });
        Sentence.holds(25, "Throws `IndexOutOfBoundsException` if there is no such ARC (if beam is in range)", EdgesOfSearch::noSuchArc);
        Sentence.holds(25, "Throws `IllegalArgumentException` if beam or what is out of range", () -> {
            Latticehear x = Edge.small();
            refusedBelow0("arc", n -> x.arc(n, 0, 0));
            refusedBelow0("an arc that there is not", n -> x.arc(n, 99, 0));
            refusedBelow0("an arc below 0", n -> x.arc(n, -1, 4));
            refusedBelow0("arc of a new object", n -> new Latticehear().arc(n, 0, 0));
            Edge.refused(Edge.ARGUMENT, "what", n -> x.arc(0, 3, n), -1, 4, Edge.LEAST, Edge.GREATEST);
        });
    }

    private static void allOfSmall(long beam) {
        Latticehear x = Edge.small();
        int at = 0;
        for (long[] arc : ARCS) {
            if (arc[3] <= beam) {
                for (int what = 0; what < 4; what++) {
                    Check.same("arc(" + beam + ", " + at + ", " + what + ")", x.arc(beam, at, what), arc[what]);
                }
                at++;
            }
        }
        Check.same("arcs", x.arcs(beam), at);
    }

    private static void noSuchArc() {
        Latticehear x = Edge.small();
        Edge.refused(Edge.INDEX, "arc of 4", n -> x.arc(0, n, 0), -1, 4, 11, Edge.LEAST, Edge.GREATEST);
        Edge.refused(Edge.INDEX, "arc of 12", n -> x.arc(Long.MAX_VALUE, n, 0), -1, 12, Edge.LEAST, Edge.GREATEST);
        x.silence();
        Edge.refused(Edge.INDEX, "arc of none", n -> x.arc(Long.MAX_VALUE, n, 0), 0, -1, 1);
        Latticehear y = Edge.alike(5, 16);
        y.factor(0);
        Edge.refused(Edge.INDEX, "arc of all that there can be", n -> y.arc(0, n, 0), 680, -1);
    }

    // ---- promise 26

    private static void keyword() {
        Sentence.holds(26, "- `word`: a WORD", () -> {
            Latticehear x = Edge.alike(0, 1);
            for (int word = 0; word < 5; word++) {
                Edge.word(x, "a", 10 * word);
            }
            for (int word = 0; word < 5; word++) {
                Check.same("keyword(" + word + ")", x.keyword(word), 10 * word);
            }
        });
        Sentence.holds(26, "Returns the SLACK; NONE if it is in no PATH.", () -> {
            Latticehear x = Edge.sounds(1);
            Edge.word(x, "a", 9);
            Edge.word(x, "aaa", 5);
            Check.same("without frames", x.keyword(0), -1);
            long[][] due = {{0, -1}, {0, -1}, {4, 0}, {4, 0}};
            for (long[] one : due) {
                x.frame(0, 0, 0);
                Check.same("the first one over " + x.sum(0), x.keyword(0), one[0]);
                Check.same("the second one over " + x.sum(0), x.keyword(1), one[1]);
            }
        });
        Sentence.holds(26, "Throws `IndexOutOfBoundsException` if there is no such WORD", () -> {
            for (int words = 0; words <= 5; words++) {
                Latticehear x = Edge.alike(words, 1);
                Edge.refused(Edge.INDEX, "keyword of " + words, x::keyword, words, 5, 6, -1, Edge.LEAST, Edge.GREATEST);
            }
        });
    }

    // ---- promise 27

    private static void sure() {
        Sentence.holds(27, "- `beam`: 0 or more", () -> {
            Latticehear x = Edge.small();
            Check.same("by the least", x.sure(0, 1), bits(2, 2));
            Check.same("by 100", x.sure(100, 1), bits(4, 6));
            Check.same("by one beyond an int", x.sure(BEYOND_INT, 1), bits(4, 8));
            Check.same("by the greatest", x.sure(Long.MAX_VALUE, 1), bits(4, 8));
        });
        Sentence.holds(27, "- `frame`: a FRAME", () -> {
            Latticehear x = Edge.small();
            Check.same("the first one", x.sure(100, 0), bits(2, 5));
            Check.same("the last one", x.sure(100, 2), bits(3, 4));
            Latticehear y = Edge.alike(1, 16);
            Check.same("the first of 16", y.sure(Long.MAX_VALUE, 0), bits(1, 1));
            Check.same("the last of 16", y.sure(Long.MAX_VALUE, 15), bits(1, 1));
        });
        Sentence.holds(27, "Returns the bits of the float.", () -> {
            for (int words = 1; words <= 5; words++) {
                for (int frames = 1; frames <= 16; frames += 3) {
                    Latticehear x = Edge.alike(words, frames);
                    Check.same("one of " + words, x.sure(Long.MAX_VALUE, frames - 1), bits(1, words));
                    Check.same("one of " + words, x.sure(0, 0), bits(1, words));
                }
            }
            manyParts();
        });
        Sentence.holds(27, "Throws `IndexOutOfBoundsException` if there is no such FRAME", () -> {
            for (int frames = 0; frames <= 16; frames += 4) {
                Latticehear x = Edge.alike(1, frames);
                Edge.refused(Edge.INDEX, "frame of " + frames, n -> x.sure(0, n), frames, 16, 17, -1, Edge.LEAST, Edge.GREATEST);
            }
        });
        Sentence.holds(27, "Throws `IllegalArgumentException` if beam is below 0", () -> {
            refusedBelow0("sure", n -> Edge.small().sure(n, 2));
            refusedBelow0("sure without a best row", n -> Edge.alike(0, 1).sure(n, 0));
        });
        Sentence.holds(27, "Throws `IllegalStateException` if there is no BEST ROW", () -> {
            Latticehear x = Edge.alike(0, 1);
            Check.fails("without words", Edge.STATE, () -> x.sure(0, 0));
            Edge.word(x, "aa", 0);
            Check.fails("with too few frames", Edge.STATE, () -> x.sure(Long.MAX_VALUE, 0));
            x.frame(0, 0, 0);
            Check.same("with just enough", x.sure(0, 1), bits(1, 1));
        });
    }

    /** WORDS of one to four SOUNDS have the fewer ARCS, the more SOUNDS; the one that is said best has two. */
    private static void manyParts() {
        for (int frames = 2; frames <= 16; frames++) {
            Latticehear x = Edge.sounds(1);
            for (int length = 1; length <= 4; length++) {
                Edge.word(x, "aaaa".substring(0, length), length == 2 ? 0 : 9);
            }
            Edge.hear(x, new int[frames]);
            for (int frame = 0; frame < frames; frame++) {
                int all = 0;
                for (int length = 1; length <= 4; length++) {
                    all += arcsAround(frame, frames, length);
                }
                Check.same("of " + frames + " sure of " + frame, x.sure(Long.MAX_VALUE, frame), bits(arcsAround(frame, frames, 2), all));
            }
        }
    }

    private static int arcsAround(int frame, int frames, int length) {
        int count = 0;
        for (int from = 0; from <= frame; from++) {
            for (int to = frame + 1; to <= frames; to++) {
                count += to - from >= length ? 1 : 0;
            }
        }
        return count;
    }

    private static int bits(int some, int all) {
        return Float.floatToIntBits((float) some / all);
    }
}
