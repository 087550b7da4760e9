/** The sentences of promises 16 to 19: language. */
final class EdgesOfLanguage {
    /** No ROWS, however many WORDS there are: empty, below 0, a digit that is no WORD, too long. */
    static final int[] NO_ROWS = {0, -1, -11, 10, 20, 101, 110, 1000, 1011, 1101, 1110, 6, 9, 16, 61, 1116, 6111, 11111, 10000, 55555,
        1111111111, Edge.LEAST, Edge.GREATEST};

    private EdgesOfLanguage() {
    }

    static void run() {
        learn();
        back();
        factor();
        price();
    }

    /** A call with a ROW is refused if it has a WORD that there is not, and taken as soon as there is this WORD. */
    static void rowsOfWordsThatThereAre(String call, java.util.function.Function<Latticehear, Edge.Open> open) {
        for (int words = 0; words <= 5; words++) {
            Latticehear x = Edge.alike(words, 4);
            Edge.Open made = open.apply(x);
            Edge.refused(Edge.ARGUMENT, call + " of " + words + " words", made, NO_ROWS);
            for (int unit = 1; unit <= 1000; unit *= 10) {
                int lowest = unit * 10 / 9;
                if (words > 0) {
                    Check.that(call + " of the last word", made.with(lowest + (words - 1) * unit) >= 0);
                    Check.that(call + " of the last word behind", made.with(lowest + words - 1) >= 0);
                    Edge.refused(Edge.ARGUMENT, call + " of " + words + " words", made, lowest + words * unit, lowest + words);
                } else {
                    Edge.refused(Edge.ARGUMENT, call + " without words", made, lowest);
                }
            }
        }
    }

    // ---- promise 16

    private static void learn() {
        Sentence.holds(16, "Learns a ROW.", () -> Twin.changesWhatWasAsked("learn", EdgesOfTerms::part, x -> x.learn(2132)));
        Sentence.holds(16, "- `row`: its number", () -> {
            Latticehear x = Edge.alike(5, 0);
            Check.same("the lowest", x.learn(1), 2);
            Check.same("the price of its pair", x.price(-1, 0), 0);
            Check.same("the highest", x.learn(5555), 7);
            Check.same("the price of its first pair", x.price(-1, 4), 800);
            Check.same("the price of its middle pairs", x.price(4, 4), 100 * (16 - 12));
            Check.same("the price of its last pair", x.price(4, -1), 1600);
        });
        Sentence.holds(16, "Returns how many pairs were counted at all then.", () -> {
            Latticehear x = Edge.alike(2, 0);
            int[] rows = {1, 12, 212, 2121, 2222, 2};
            int[] pairs = {2, 5, 9, 14, 19, 21};
            for (int i = 0; i < rows.length; i++) {
                Check.same("learn(" + rows[i] + ")", x.learn(rows[i]), pairs[i]);
            }
        });
        Sentence.holds(16, "Throws `IllegalArgumentException` if row is no number of a ROW of WORDS that there are", () -> {
            rowsOfWordsThatThereAre("learn", x -> x::learn);
            Latticehear x = Edge.alike(2, 0);
            Edge.refused(Edge.ARGUMENT, "learn", x::learn, 13, 31, 1211111);
            Check.same("pairs behind refused ones", x.sum(3), 0);
            Check.same("the price of the start and a", x.price(-1, 0), 2500);
        });
    }

    // ---- promise 17

    private static void back() {
        Sentence.holds(17, "Sets the BACK.", () -> Twin.changesWhatWasAsked("back", EdgesOfTerms::part, x -> x.back(99999)));
        Sentence.holds(17, "- `back`: 0 to 99999", () -> {
            Latticehear x = new Latticehear();
            x.back(0);
            Check.same("the price by the least", x.price(-1, -1), 2000);
            x.back(99999);
            Check.same("the price by the greatest", x.price(-1, -1), 101999);
        });
        Sentence.holds(17, "Returns the one before.", () -> {
            Latticehear x = new Latticehear();
            Check.same("at first", x.back(99999), 500);
            Check.same("the greatest", x.back(0), 99999);
            Check.same("the least", x.back(0), 0);
            Check.same("the same again", x.back(1), 0);
        });
        Sentence.holds(17, "Throws `IllegalArgumentException` if back is out of range", () -> {
            Latticehear x = new Latticehear();
            Edge.refused(Edge.ARGUMENT, "back", x::back, -1, 100000, Edge.LEAST, Edge.GREATEST);
            Check.same("the back stays", x.sum(6), 500);
        });
    }

    // ---- promise 18

    private static void factor() {
        Sentence.holds(18, "Sets the FACTOR.", () -> {
            Twin.changesWhatWasAsked("factor", EdgesOfTerms::part, x -> x.factor(99));
            Twin.changesWhatWasAsked("no factor", EdgesOfTerms::part, x -> x.factor(0));
        });
        Sentence.holds(18, "- `factor`: 0 to 99", () -> {
            Latticehear x = Edge.alike(1, 1);
            x.factor(0);
            Check.same("the weight by the least", x.weight(1), 0);
            x.factor(99);
            Check.same("the weight by the greatest", x.weight(1), 99 * 5000);
        });
        Sentence.holds(18, "Returns the one before.", () -> {
            Latticehear x = new Latticehear();
            Check.same("at first", x.factor(99), 1);
            Check.same("the greatest", x.factor(0), 99);
            Check.same("the least", x.factor(0), 0);
            Check.same("the same again", x.factor(1), 0);
        });
        Sentence.holds(18, "Throws `IllegalArgumentException` if factor is out of range", () -> {
            Latticehear x = new Latticehear();
            Edge.refused(Edge.ARGUMENT, "factor", x::factor, -1, 100, 256, Edge.LEAST, Edge.GREATEST);
            Check.same("the factor stays", x.sum(7), 1);
        });
    }

    // ---- promise 19

    private static void price() {
        Sentence.holds(19, "- `ahead`: a WORD, or NONE for the START", () -> {
            Latticehear x = Edge.alike(5, 0);
            x.learn(1);
            x.learn(5);
            Check.same("the start ahead", x.price(-1, 0), 800);
            Check.same("the first word ahead", x.price(0, -1), 0);
            Check.same("the last word ahead", x.price(4, -1), 0);
            Check.same("another word ahead", x.price(3, -1), 500 + 100 * (26 - 12));
        });
        Sentence.holds(19, "- `behind`: a WORD, or NONE for the END", () -> {
            Latticehear x = Edge.alike(5, 0);
            x.learn(51);
            Check.same("the end behind", x.price(0, -1), 0);
            Check.same("the first word behind", x.price(4, 0), 0);
            Check.same("the last word behind", x.price(-1, 4), 0);
            Check.same("the end behind another word", x.price(4, -1), 500 + 100 * (25 - 8));
        });
        Sentence.holds(19, "Returns the PRICE, without the FACTOR.", () -> {
            Latticehear x = Edge.alike(1, 0);
            for (int factor : new int[] {0, 1, 2, 99}) {
                x.factor(factor);
                Check.same("a pair that was not counted", x.price(-1, 0), 2500);
            }
            x.back(99999);
            x.learn(1);
            x.learn(11);
            Check.same("one that was", x.price(0, 0), 1200);
        });
        Sentence.holds(19, "Throws `IndexOutOfBoundsException` if there is no such WORD, of either", () -> {
            for (int words = 0; words <= 5; words++) {
                Latticehear x = Edge.alike(words, 0);
                int[] bad = {words, 5, 6, -2, Edge.LEAST, Edge.GREATEST};
                Edge.refused(Edge.INDEX, "ahead", n -> x.price(n, -1), bad);
                Edge.refused(Edge.INDEX, "behind", n -> x.price(-1, n), bad);
                Edge.refused(Edge.INDEX, "both", n -> x.price(n, n), bad);
                Check.same("both none", x.price(-1, -1), 2500);
            }
        });
    }
}
