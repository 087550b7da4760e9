/** All promises: long runs of calls, right and wrong ones, on the program and on the plain model of the document. */
final class ModelTest {
    private static long seed;
    private static final StringBuilder told = new StringBuilder();
    private static Latticehear program;
    private static Model model;
    private static int scale;

    public static void main(String[] args) {
        for (int run = 1; run <= 400 && Check.wrongSoFar() == 0; run++) {
            play(run, 120, 7, 3);
        }
        for (int run = 1001; run <= 1060 && Check.wrongSoFar() == 0; run++) {
            play(run, 200, 9, 5);
        }
        for (int run = 2001; run <= 2006 && Check.wrongSoFar() == 0; run++) {
            play(run, 110, 16, 5);
        }
        Check.end();
    }

    private static void play(int run, int calls, int frames, int words) {
        seed = run * 7919L;
        told.setLength(0);
        told.append("run ").append(run).append(":");
        program = new Latticehear();
        model = new Model();
        int[] scales = {0, 1, 2, 5, 30, 300, 3000, 30000};
        scale = scales[run % scales.length];
        for (int i = 0; i < 2 + below(5); i++) {
            call(10, frames, words);
        }
        for (int i = 0; i < 4 * words; i++) {
            call(12 + below(4), frames, words);
        }
        for (int i = 0; i < frames; i++) {
            call(0, frames, words);
        }
        for (int i = 0; i < calls && Check.wrongSoFar() == 0; i++) {
            call(below(60), frames, words);
        }
    }

    private static int below(int bound) {
        seed = seed * 6364136223846793005L + 1442695040888963407L;
        return (int) ((seed >>> 33) % bound);
    }

    private static int between(int least, int most) {
        return least + below(most - least + 1);
    }

    /** Mostly in range, now and then at its ends or beyond. */
    private static int near(int least, int most) {
        int chance = below(24);
        if (chance == 0) {
            int[] edges = {least - 1, most + 1, Integer.MIN_VALUE, Integer.MAX_VALUE};
            return edges[below(edges.length)];
        }
        return chance == 1 ? least : chance == 2 ? most : between(least, most);
    }

    private static int number() {
        int chance = below(60);
        if (chance == 0) {
            int[] edges = {-30001, 30001, -30000, 30000, Integer.MIN_VALUE, Integer.MAX_VALUE};
            return edges[below(edges.length)];
        }
        return between(-scale, scale);
    }

    private static int row() {
        int length = 1 + below(4);
        int row = 0;
        for (int i = 0; i < length; i++) {
            row = row * 10 + between(1, Math.max(1, model.sum(2)));
        }
        int[] odd = {0, -1, -11, 10, 101, 6, 19, 11111, 66, Integer.MAX_VALUE, Integer.MIN_VALUE};
        return below(12) == 0 ? odd[below(odd.length)] : row;
    }

    private static long beam() {
        long[] beams = {0, 0, 1, 5, 100, 400, 900, 2500, 5000, 100000, 10000000L, Long.MAX_VALUE, -1, Long.MIN_VALUE};
        return beams[below(12 + (below(6) == 0 ? 2 : 0))];
    }

    private static void call(int which, int frames, int words) {
        int f = model.sum(0);
        int s = model.sum(1);
        int w = model.sum(2);
        int a = number();
        int b = number();
        int c = number();
        int row = row();
        long beam = beam();
        switch (which) {
            case 0: case 1: case 2: case 3: case 4:
                if (f < frames || f == 16) {
                    one("frame(" + a + ", " + b + ", " + c + ")", () -> program.frame(a, b, c), () -> model.frame(a, b, c));
                }
                break;
            case 5:
                if (below(3) == 0) {
                    one("silence()", () -> program.silence(), () -> model.silence());
                }
                break;
            case 6: {
                int who = near(0, 3);
                one("speak(" + who + ")", () -> program.speak(who), () -> model.speak(who));
                break;
            }
            case 7: {
                int who = near(0, 3);
                int i = near(0, 2);
                one("shift(" + who + ", " + i + ", " + a + ")", () -> program.shift(who, i, a), () -> model.shift(who, i, a));
                break;
            }
            case 8: {
                int who = near(0, 3);
                int i = near(0, 2);
                one("shiftOf(" + who + ", " + i + ")", () -> program.shiftOf(who, i), () -> model.shiftOf(who, i));
                break;
            }
            case 9:
                one("fit()", () -> program.fit(), () -> model.fit());
                break;
            case 10: {
                int width = near(1, 99);
                one("sound(" + a + ", " + b + ", " + c + ", " + width + ")",
                    () -> program.sound(a, b, c, width), () -> model.sound(a, b, c, width));
                break;
            }
            case 11: case 12: {
                int i = near(0, Math.max(0, s - 1));
                int side = near(0, 1);
                int set = near(0, 63);
                int move = below(8) == 0 ? near(-3000, 3000) : between(-Math.min(scale, 3000), Math.min(scale, 3000));
                one("question(" + i + ", " + side + ", " + set + ", " + move + ")",
                    () -> program.question(i, side, set, move), () -> model.question(i, side, set, move));
                break;
            }
            case 13: case 16: {
                for (int i = 0; i < 1 + below(3); i++) {
                    char letter = (char) (below(30) == 0 ? near('a', 'f') : 'a' + below(Math.max(1, s)));
                    one("type('" + letter + "')", () -> program.type(letter), () -> model.type(letter));
                }
                break;
            }
            case 14: {
                int price = below(3) == 0 ? near(0, 9999) : between(0, Math.min(scale, 100));
                if (w < words || w == 5) {
                    one("word(" + price + ")", () -> program.word(price), () -> model.word(price));
                }
                break;
            }
            case 15: {
                int i = near(0, Math.max(0, w - 1));
                int price = below(3) == 0 ? near(0, 9999) : between(0, Math.min(scale, 100));
                one("saying(" + i + ", " + price + ")", () -> program.saying(i, price), () -> model.saying(i, price));
                break;
            }
            case 17: case 18: {
                int i = near(0, Math.max(0, w - 1));
                int j = near(0, 1);
                int k = near(0, 3);
                one("form(" + i + ", " + j + ", " + k + ")", () -> program.form(i, j, k), () -> model.form(i, j, k));
                break;
            }
            case 19: case 20: {
                int i = near(0, Math.max(0, f - 1));
                int j = near(0, Math.max(0, s - 1));
                int k = near(0, 3);
                one("cost(" + i + ", " + j + ", " + k + ")", () -> program.cost(i, j, k), () -> model.cost(i, j, k));
                break;
            }
            case 21: case 22: case 23: {
                int i = near(0, Math.max(0, w - 1));
                int from = near(0, Math.max(0, f - 1));
                int to = near(0, f);
                one("over(" + i + ", " + from + ", " + to + ")",
                    () -> program.over(i, from, to), () -> model.over(i, from, to));
                break;
            }
            case 24: case 25: case 26:
                one("learn(" + row + ")", () -> program.learn(row), () -> model.learn(row));
                break;
            case 27: {
                int back = below(2) == 0 ? near(0, 99999) : below(600);
                one("back(" + back + ")", () -> program.back(back), () -> model.back(back));
                break;
            }
            case 28: {
                int factor = below(2) == 0 ? near(0, 99) : below(3);
                one("factor(" + factor + ")", () -> program.factor(factor), () -> model.factor(factor));
                break;
            }
            case 29: case 30: case 31: {
                int ahead = near(-1, Math.max(0, w - 1));
                int behind = near(-1, Math.max(0, w - 1));
                one("price(" + ahead + ", " + behind + ")",
                    () -> program.price(ahead, behind), () -> model.price(ahead, behind));
                break;
            }
            case 32: case 33:
                one("weight(" + row + ")", () -> program.weight(row), () -> model.weight(row));
                break;
            case 34:
                one("weightAnew(" + row + ")", () -> program.weightAnew(row), () -> model.weightAnew(row));
                break;
            case 35: case 36: case 37: {
                int place = below(2) == 0 ? below(6) : near(0, 200);
                one("best(" + place + ")", () -> program.best(place), () -> model.best(place));
                break;
            }
            case 38: case 39: case 40: case 41: case 42: {
                int most = below(3) == 0 ? near(1, 20) : between(1, 4);
                int what = near(0, 2);
                one("found(" + beam + ", " + most + ", " + what + ")",
                    () -> program.found(beam, most, what), () -> model.found(beam, most, what));
                break;
            }
            case 43: case 44:
                one("arcs(" + beam + ")", () -> program.arcs(beam), () -> model.arcs(beam));
                break;
            case 45: case 46: case 47: {
                int count = beam < 0 ? 0 : model.arcs(beam);
                int arc = below(12) == 0 ? near(0, count) : below(Math.max(1, count));
                int what = near(0, 3);
                one("arc(" + beam + ", " + arc + ", " + what + ")",
                    () -> program.arc(beam, arc, what), () -> model.arc(beam, arc, what));
                break;
            }
            case 48: case 49: {
                int i = near(0, Math.max(0, w - 1));
                one("keyword(" + i + ")", () -> program.keyword(i), () -> model.keyword(i));
                break;
            }
            case 50: case 51: {
                int i = near(0, Math.max(0, f - 1));
                one("sure(" + beam + ", " + i + ")", () -> program.sure(beam, i), () -> model.sure(beam, i));
                break;
            }
            case 52: case 53: case 54: {
                for (int n = 0; n < 5; n++) {
                    int i = near(0, Math.max(0, f - 1));
                    int what = near(0, 5);
                    one("path(" + i + ", " + what + ")", () -> program.path(i, what), () -> model.path(i, what));
                }
                break;
            }
            case 55: case 56:
                one("errors(" + row + ")", () -> program.errors(row), () -> model.errors(row));
                break;
            default: {
                int what = near(0, 8);
                one("sum(" + what + ")", () -> program.sum(what), () -> model.sum(what));
                break;
            }
        }
    }

    private static void one(String call, Check.Call ofProgram, Check.Call ofModel) {
        told.append(' ').append(call);
        String got = outcome(ofProgram);
        String due = outcome(ofModel);
        Check.that(told + " answered " + got + ", due is " + due, got.equals(due));
    }

    private static String outcome(Check.Call call) {
        try {
            return Long.toString(call.answer());
        } catch (RuntimeException thrown) {
            return thrown.getClass().getName();
        }
    }
}
