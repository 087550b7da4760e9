import java.util.function.Consumer;
import java.util.function.Supplier;

/** Two objects that were used in the same way, but for calls that change nothing: they answer alike from there on. */
final class Twin {
    private Twin() {
    }

    static void refusalChangesNothing(String call, Supplier<Latticehear> made, Consumer<Latticehear> refused) {
        Latticehear one = made.get();
        Latticehear other = made.get();
        boolean wasRefused = false;
        try {
            refused.accept(one);
        } catch (IllegalArgumentException | IllegalStateException | IndexOutOfBoundsException thrown) {
            wasRefused = true;
        }
        Check.that(call + " is refused", wasRefused);
        compare(call, answers(one), answers(other));
    }

    /** What was asked ahead of a change is answered anew behind it, as if it had not been asked. */
    static void changesWhatWasAsked(String call, Supplier<Latticehear> made, Consumer<Latticehear> change) {
        Latticehear one = made.get();
        one.best(3);
        one.found(900, 3, 1);
        if (one.arcs(900) > 0) {
            one.sure(900, 0);
        }
        change.accept(one);
        Latticehear other = made.get();
        change.accept(other);
        String due = answers(other);
        compare(call, answers(one), due);
        Check.that(call + " changes something", !due.equals(answers(made.get())));
    }

    private static void compare(String call, String answered, String answeredByOther) {
        String[] got = answered.split("\n");
        String[] due = answeredByOther.split("\n");
        Check.same("answers behind " + call, got.length, due.length);
        for (int i = 0; i < due.length && i < got.length; i++) {
            Check.that("behind " + call + " it is " + got[i] + ", due is " + due[i], got[i].equals(due[i]));
        }
    }

    /** All that an object can be asked, in some 400 calls; the last ones bring THE TEXT to light, and the SHIFT. */
    private static String answers(Latticehear x) {
        StringBuilder told = new StringBuilder();
        for (int what = 0; what <= 8; what++) {
            int asked = what;
            tell(told, "sum " + what, () -> x.sum(asked));
        }
        tellOfSounds(x, told);
        tellOfLanguage(x, told);
        tellOfRows(x, told);
        tellOfFrames(x, told);
        tell(told, "a word of the text", () -> x.word(1));
        tell(told, "a saying of the text", () -> x.saying(0, 1));
        int newest = Math.max(0, x.sum(2) - 1);
        tellOfSaying(x, newest, 0, told);
        tellOfSaying(x, 0, 1, told);
        tell(told, "over by the newest word", () -> x.over(newest, 0, Math.max(1, x.sum(0))));
        tell(told, "fit", () -> x.fit());
        for (int speaker = 0; speaker < 4; speaker++) {
            for (int which = 0; which < 3; which++) {
                int one = speaker;
                int number = which;
                tell(told, "shift " + speaker + " " + which, () -> x.shiftOf(one, number));
            }
        }
        return told.toString();
    }

    private static void tell(StringBuilder told, String call, Check.Call asked) {
        told.append(call).append(": ");
        try {
            told.append(asked.answer());
        } catch (RuntimeException thrown) {
            told.append(thrown.getClass().getSimpleName());
        }
        told.append('\n');
    }

    private static void tellOfSounds(Latticehear x, StringBuilder told) {
        int last = Math.max(0, x.sum(0) - 1);
        for (int sound = 0; sound < 6; sound++) {
            for (int form = 0; form <= 3; form++) {
                int s = sound;
                int f = form;
                tell(told, "cost of the last frame by " + sound + " " + form, () -> x.cost(last, s, f));
            }
        }
        for (int word = 0; word < 5; word++) {
            tellOfSaying(x, word, 0, told);
            tellOfSaying(x, word, 1, told);
            int w = word;
            tell(told, "over by " + word, () -> x.over(w, 0, last + 1));
        }
    }

    private static void tellOfSaying(Latticehear x, int word, int saying, StringBuilder told) {
        for (int place = 0; place < 4; place++) {
            int p = place;
            tell(told, "form " + word + " " + saying + " " + place, () -> x.form(word, saying, p));
        }
    }

    private static void tellOfLanguage(Latticehear x, StringBuilder told) {
        for (int ahead = -1; ahead < 5; ahead++) {
            for (int behind = -1; behind < 5; behind++) {
                int one = ahead;
                int other = behind;
                tell(told, "price " + ahead + " " + behind, () -> x.price(one, other));
            }
        }
    }

    private static void tellOfRows(Latticehear x, StringBuilder told) {
        for (int row : new int[] {1, 2, 5, 12, 21, 55, 123, 1111, 5432}) {
            tell(told, "weight " + row, () -> x.weight(row));
            tell(told, "weightAnew " + row, () -> x.weightAnew(row));
            tell(told, "errors " + row, () -> x.errors(row));
        }
        for (int place = 0; place < 12; place++) {
            int p = place * place * 6;
            tell(told, "best " + p, () -> x.best(p));
        }
        for (int what = 0; what < 3; what++) {
            int asked = what;
            tell(told, "found " + what, () -> x.found(900, 3, asked));
            tell(told, "arc " + what, () -> x.arc(900, 2, asked));
        }
        for (int word = 0; word < 5; word++) {
            int w = word;
            tell(told, "keyword " + word, () -> x.keyword(w));
        }
        tell(told, "arcs", () -> x.arcs(900));
    }

    private static void tellOfFrames(Latticehear x, StringBuilder told) {
        for (int frame = 0; frame < 16; frame++) {
            int f = frame;
            tell(told, "cost of " + frame, () -> x.cost(f, 0, 0));
            tell(told, "sure of " + frame, () -> x.sure(900, f));
            for (int what = 2; what < 6; what++) {
                int asked = what;
                tell(told, "path " + frame + " " + what, () -> x.path(f, asked));
            }
        }
    }
}
