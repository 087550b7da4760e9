import java.util.ArrayList;
import java.util.Comparator;
import java.util.List;

/**
 * The document once more, in the plainest form: all PATHS of all ROWS and all ways to say each WORD are written
 * out, and each answer is looked up among them. It shares no thought with the program but the document.
 */
final class Model {
    private static final int NONE = -1;

    private static final class Quiz {
        int side;
        int set;
        int move;
    }

    private static final class Tone {
        int[] centre;
        int width;
        final List<Quiz> questions = new ArrayList<>();
    }

    private static final class Utterance {
        int[] sounds;
        int price;
    }

    /** One way to say a WORD: how many FRAMES each SOUND has, and what it takes. */
    private static final class Way {
        int saying;
        int[] lengths;
        long takes;
    }

    /** A PATH: WORD i has the FRAMES from cuts[i] to ahead of cuts[i + 1]. */
    private static final class Route {
        int row;
        int[] words;
        int[] cuts;
        long weight;
    }

    private static final class Ranked {
        int row;
        long weight;
    }

    private final List<int[]> frames = new ArrayList<>();
    private final int[][] shifts = new int[4][3];
    private int speaker = 0;
    private final List<Tone> sounds = new ArrayList<>();
    private final List<List<Utterance>> words = new ArrayList<>();
    private String text = "";
    private final List<int[]> pairs = new ArrayList<>();
    private int back = 500;
    private int factor = 1;
    private List<Route> routes = null;

    // ---- frames, speakers

    int frame(int first, int second, int third) {
        argument(within(first, -30000, 30000) && within(second, -30000, 30000) && within(third, -30000, 30000));
        state(frames.size() < 16);
        frames.add(new int[] {first, second, third});
        routes = null;
        return frames.size();
    }

    int silence() {
        int before = frames.size();
        frames.clear();
        routes = null;
        return before;
    }

    int speak(int who) {
        index(within(who, 0, 3));
        int before = speaker;
        speaker = who;
        routes = null;
        return before;
    }

    int shift(int who, int which, int number) {
        index(within(who, 0, 3));
        argument(within(which, 0, 2) && within(number, -30000, 30000));
        int before = shifts[who][which];
        shifts[who][which] = number;
        routes = null;
        return before;
    }

    int shiftOf(int who, int which) {
        index(within(who, 0, 3));
        argument(within(which, 0, 2));
        return shifts[who][which];
    }

    long fit() {
        state(bestRoute() != null);
        long[] sums = new long[3];
        for (int f = 0; f < frames.size(); f++) {
            int[] told = tell(f);
            for (int i = 0; i < 3; i++) {
                sums[i] += frames.get(f)[i] - shifts[speaker][i] - lies(told[4], told[5], i);
            }
        }
        for (int i = 0; i < 3; i++) {
            long mean = (long) Math.floor((double) sums[i] / frames.size());
            shifts[speaker][i] = (int) Math.max(-30000L, Math.min(30000L, shifts[speaker][i] + mean));
        }
        routes = null;
        return bestRoute().weight;
    }

    // ---- sounds, words

    int sound(int first, int second, int third, int width) {
        argument(within(first, -30000, 30000) && within(second, -30000, 30000) && within(third, -30000, 30000));
        argument(within(width, 1, 99));
        state(sounds.size() < 6);
        Tone tone = new Tone();
        tone.centre = new int[] {first, second, third};
        tone.width = width;
        sounds.add(tone);
        return sounds.size() - 1;
    }

    int question(int sound, int side, int set, int move) {
        index(within(sound, 0, sounds.size() - 1));
        argument(within(side, 0, 1) && within(set, 0, 63) && within(move, -3000, 3000));
        state(sounds.get(sound).questions.size() < 3);
        Quiz quiz = new Quiz();
        quiz.side = side;
        quiz.set = set;
        quiz.move = move;
        sounds.get(sound).questions.add(quiz);
        routes = null;
        return sounds.get(sound).questions.size();
    }

    int type(char letter) {
        argument("abcdef".indexOf(letter) >= 0);
        state(text.length() < 4);
        text += letter;
        return text.length();
    }

    int word(int price) {
        argument(within(price, 0, 9999));
        state(sayable() && words.size() < 5);
        words.add(new ArrayList<>());
        say(words.size() - 1, price);
        return words.size() - 1;
    }

    int saying(int word, int price) {
        index(isWord(word));
        argument(within(price, 0, 9999));
        state(sayable() && words.get(word).size() < 2);
        int letters = text.length();
        say(word, price);
        return letters;
    }

    int form(int word, int saying, int place) {
        index(isWord(word));
        index(within(saying, 0, words.get(word).size() - 1));
        Utterance said = words.get(word).get(saying);
        index(within(place, 0, said.sounds.length - 1));
        return formIn(said, place);
    }

    long cost(int frame, int sound, int form) {
        index(within(frame, 0, frames.size() - 1) && within(sound, 0, sounds.size() - 1));
        argument(within(form, 0, sounds.get(sound).questions.size()));
        return costBy(frame, sound, form);
    }

    long over(int word, int from, int to) {
        index(isWord(word));
        argument(within(from, 0, frames.size() - 1));
        argument(to > from && to <= frames.size());
        Way way = bestWay(word, from, to);
        return way == null ? NONE : way.takes;
    }

    // ---- language

    int learn(int row) {
        argument(isRow(row));
        int ahead = NONE;
        for (int word : digits(row)) {
            pairs.add(new int[] {ahead, word});
            ahead = word;
        }
        pairs.add(new int[] {ahead, NONE});
        routes = null;
        return pairs.size();
    }

    int back(int number) {
        argument(within(number, 0, 99999));
        int before = back;
        back = number;
        routes = null;
        return before;
    }

    int factor(int number) {
        argument(within(number, 0, 99));
        int before = factor;
        factor = number;
        routes = null;
        return before;
    }

    long price(int ahead, int behind) {
        index(ahead == NONE || isWord(ahead));
        index(behind == NONE || isWord(behind));
        int same = 0;
        int begun = 0;
        int ended = 0;
        for (int[] pair : pairs) {
            same += pair[0] == ahead && pair[1] == behind ? 1 : 0;
            begun += pair[0] == ahead ? 1 : 0;
            ended += pair[1] == behind ? 1 : 0;
        }
        if (same > 0) {
            return 100 * (lg(begun) - lg(same));
        }
        return back + 100 * (lg(pairs.size() + 6) - lg(ended + 1));
    }

    // ---- rows, the search

    long weight(int row) {
        argument(isRow(row));
        long least = NONE;
        for (Route route : allRoutes()) {
            if (route.row == row && (least == NONE || route.weight < least)) {
                least = route.weight;
            }
        }
        return least;
    }

    long weightAnew(int row) {
        return weight(row);
    }

    int best(int place) {
        argument(place >= 0);
        List<Ranked> order = order();
        return place < order.size() ? order.get(place).row : NONE;
    }

    long found(long beam, int most, int what) {
        argument(beam >= 0 && most >= 1 && within(what, 0, 2));
        List<List<Ranked>> kept = new ArrayList<>();
        kept.add(new ArrayList<>());
        long dropped = 0;
        for (int t = 1; t <= frames.size(); t++) {
            List<Ranked> ends = endsAt(t, kept);
            List<Ranked> stay = new ArrayList<>();
            ends.sort(Comparator.comparingLong((Ranked end) -> end.weight).thenComparingInt(end -> end.row));
            for (Ranked end : ends) {
                if (end.weight - ends.get(0).weight <= beam && stay.size() < most) {
                    stay.add(end);
                } else {
                    dropped++;
                }
            }
            kept.add(stay);
        }
        if (what == 2) {
            return dropped;
        }
        Ranked found = null;
        for (Ranked end : kept.get(frames.size())) {
            Ranked whole = new Ranked();
            whole.row = end.row;
            whole.weight = end.weight + factor * price(end.row % 10 - 1, NONE);
            if (found == null || whole.weight < found.weight
                    || whole.weight == found.weight && whole.row < found.row) {
                found = whole;
            }
        }
        return found == null ? NONE : what == 0 ? found.row : found.weight;
    }

    int arcs(long beam) {
        argument(beam >= 0);
        return lattice(beam).size();
    }

    long arc(long beam, int arc, int what) {
        argument(beam >= 0);
        List<long[]> lattice = lattice(beam);
        index(within(arc, 0, lattice.size() - 1));
        argument(within(what, 0, 3));
        return lattice.get(arc)[what];
    }

    long keyword(int word) {
        index(isWord(word));
        long least = NONE;
        for (long[] arc : lattice(Long.MAX_VALUE)) {
            if (arc[0] == word && (least == NONE || arc[3] < least)) {
                least = arc[3];
            }
        }
        return least;
    }

    int sure(long beam, int frame) {
        index(within(frame, 0, frames.size() - 1));
        argument(beam >= 0);
        state(bestRoute() != null);
        int all = 0;
        int same = 0;
        for (long[] arc : lattice(beam)) {
            if (arc[1] <= frame && frame < arc[2]) {
                all++;
                same += arc[0] == tell(frame)[1] ? 1 : 0;
            }
        }
        return Float.floatToIntBits((float) same / all);
    }

    int path(int frame, int what) {
        index(within(frame, 0, frames.size() - 1));
        argument(within(what, 0, 5));
        state(bestRoute() != null);
        return tell(frame)[what];
    }

    int errors(int row) {
        argument(isRow(row));
        state(bestRoute() != null);
        return changes(Integer.toString(bestRoute().row), Integer.toString(row));
    }

    int sum(int what) {
        argument(within(what, 0, 8));
        int[] sums = {frames.size(), sounds.size(), words.size(), pairs.size(), text.length(), speaker, back, factor,
            what == 8 ? order().size() : 0};
        return sums[what];
    }

    // ---- the plain ways

    private static boolean within(long number, long least, long most) {
        return least <= number && number <= most;
    }

    private static void argument(boolean holds) {
        if (!holds) {
            throw new IllegalArgumentException();
        }
    }

    private static void state(boolean holds) {
        if (!holds) {
            throw new IllegalStateException();
        }
    }

    private static void index(boolean holds) {
        if (!holds) {
            throw new IndexOutOfBoundsException();
        }
    }

    private boolean isWord(int word) {
        return within(word, 0, words.size() - 1);
    }

    private boolean isRow(int row) {
        String told = Integer.toString(row);
        boolean holds = told.length() <= 4;
        for (char digit : told.toCharArray()) {
            holds = holds && digit >= '1' && isWord(digit - '1');
        }
        return holds;
    }

    private static int[] digits(int row) {
        String told = Integer.toString(row);
        int[] words = new int[told.length()];
        for (int i = 0; i < words.length; i++) {
            words[i] = told.charAt(i) - '1';
        }
        return words;
    }

    private static long lg(long n) {
        long b = 0;
        long power = 1;
        while (power * 2 <= n) {
            power *= 2;
            b++;
        }
        return 8 * b + 8 * n / power - 8;
    }

    private boolean sayable() {
        boolean holds = !text.isEmpty();
        for (char letter : text.toCharArray()) {
            holds = holds && letter - 'a' < sounds.size();
        }
        return holds;
    }

    private void say(int word, int price) {
        Utterance said = new Utterance();
        said.price = price;
        said.sounds = new int[text.length()];
        for (int i = 0; i < text.length(); i++) {
            said.sounds[i] = text.charAt(i) - 'a';
        }
        words.get(word).add(said);
        text = "";
        routes = null;
    }

    private int formIn(Utterance said, int place) {
        List<Quiz> questions = sounds.get(said.sounds[place]).questions;
        for (int q = 0; q < questions.size(); q++) {
            int where = questions.get(q).side == 0 ? place - 1 : place + 1;
            if (within(where, 0, said.sounds.length - 1) && (questions.get(q).set & 1 << said.sounds[where]) != 0) {
                return q + 1;
            }
        }
        return 0;
    }

    private int lies(int sound, int form, int which) {
        Tone tone = sounds.get(sound);
        return tone.centre[which] + (form == 0 ? 0 : tone.questions.get(form - 1).move);
    }

    private long costBy(int frame, int sound, int form) {
        long sum = 0;
        for (int i = 0; i < 3; i++) {
            long far = (long) frames.get(frame)[i] - shifts[speaker][i] - lies(sound, form, i);
            sum += far * far;
        }
        return sum / sounds.get(sound).width;
    }

    /** All ways to part a number into so many numbers of 1 or more, those with the fewest ahead first. */
    private static List<int[]> parts(int whole, int count) {
        List<int[]> all = new ArrayList<>();
        part(whole, new int[count], 0, all);
        return all;
    }

    private static void part(int rest, int[] taken, int at, List<int[]> all) {
        if (at == taken.length) {
            if (rest == 0) {
                all.add(taken.clone());
            }
            return;
        }
        for (int size = 1; size <= rest; size++) {
            taken[at] = size;
            part(rest - size, taken, at + 1, all);
        }
    }

    private Way bestWay(int word, int from, int to) {
        Way best = null;
        for (int s = 0; s < words.get(word).size(); s++) {
            Utterance said = words.get(word).get(s);
            for (int[] lengths : parts(to - from, said.sounds.length)) {
                Way way = new Way();
                way.saying = s;
                way.lengths = lengths;
                way.takes = said.price;
                int frame = from;
                for (int place = 0; place < lengths.length; place++) {
                    for (int i = 0; i < lengths[place]; i++) {
                        way.takes += costBy(frame, said.sounds[place], formIn(said, place));
                        frame++;
                    }
                }
                if (best == null || way.takes < best.takes) {
                    best = way;
                }
            }
        }
        return best;
    }

    private List<Route> allRoutes() {
        if (routes != null) {
            return routes;
        }
        routes = new ArrayList<>();
        int count = frames.size();
        long[][][] over = new long[words.size()][count + 1][count + 1];
        for (int w = 0; w < words.size(); w++) {
            for (int from = 0; from < count; from++) {
                for (int to = from + 1; to <= count; to++) {
                    Way way = bestWay(w, from, to);
                    over[w][from][to] = way == null ? NONE : way.takes;
                }
            }
        }
        for (int length = 1; length <= 4; length++) {
            List<int[]> parts = parts(count, length);
            for (int row = 1; row <= 9999; row++) {
                if (isRow(row) && digits(row).length == length) {
                    addRoutes(row, parts, over);
                }
            }
        }
        return routes;
    }

    private void addRoutes(int row, List<int[]> parts, long[][][] over) {
        int[] said = digits(row);
        long language = price(NONE, said[0]) + price(said[said.length - 1], NONE);
        for (int i = 1; i < said.length; i++) {
            language += price(said[i - 1], said[i]);
        }
        for (int[] sizes : parts) {
            Route route = new Route();
            route.row = row;
            route.words = said;
            route.cuts = new int[said.length + 1];
            route.weight = factor * language;
            boolean holds = true;
            for (int i = 0; i < said.length; i++) {
                route.cuts[i + 1] = route.cuts[i] + sizes[i];
                long cost = over[said[i]][route.cuts[i]][route.cuts[i + 1]];
                holds = holds && cost != NONE;
                route.weight += cost;
            }
            if (holds) {
                routes.add(route);
            }
        }
    }

    private List<Ranked> order() {
        List<Ranked> order = new ArrayList<>();
        Ranked last = null;
        for (Route route : allRoutes()) {
            if (last == null || last.row != route.row) {
                last = new Ranked();
                last.row = route.row;
                last.weight = route.weight;
                order.add(last);
            }
            last.weight = Math.min(last.weight, route.weight);
        }
        order.sort((one, other) -> {
            if (one.weight != other.weight) {
                return Long.compare(one.weight, other.weight);
            }
            int longer = Integer.compare(digits(one.row).length, digits(other.row).length);
            return longer != 0 ? longer : Integer.compare(one.row, other.row);
        });
        return order;
    }

    /** Of the PATHS of the BEST ROW the first one with its WEIGHT; they stand with the fewest FRAMES ahead first. */
    private Route bestRoute() {
        List<Ranked> order = order();
        if (order.isEmpty()) {
            return null;
        }
        for (Route route : allRoutes()) {
            if (route.row == order.get(0).row && route.weight == order.get(0).weight) {
                return route;
            }
        }
        return null;
    }

    private int[] tell(int frame) {
        Route route = bestRoute();
        int place = 0;
        while (frame >= route.cuts[place + 1]) {
            place++;
        }
        int word = route.words[place];
        Way way = bestWay(word, route.cuts[place], route.cuts[place + 1]);
        int at = 0;
        int end = route.cuts[place] + way.lengths[0];
        while (frame >= end) {
            at++;
            end += way.lengths[at];
        }
        Utterance said = words.get(word).get(way.saying);
        return new int[] {place, word, way.saying, at, said.sounds[at], formIn(said, at)};
    }

    private List<Ranked> endsAt(int t, List<List<Ranked>> kept) {
        Ranked[][] ends = new Ranked[5][5];
        for (int word = 0; word < words.size(); word++) {
            Way alone = bestWay(word, 0, t);
            if (alone != null) {
                offer(ends, word + 1, alone.takes + factor * price(NONE, word));
            }
            for (int from = 1; from < t; from++) {
                Way way = bestWay(word, from, t);
                for (Ranked ahead : kept.get(from)) {
                    if (way != null && ahead.row < 1000) {
                        long price = factor * price(ahead.row % 10 - 1, word);
                        offer(ends, ahead.row * 10 + word + 1, ahead.weight + way.takes + price);
                    }
                }
            }
        }
        List<Ranked> all = new ArrayList<>();
        for (Ranked[] some : ends) {
            for (Ranked end : some) {
                if (end != null) {
                    all.add(end);
                }
            }
        }
        return all;
    }

    private static void offer(Ranked[][] ends, int row, long weight) {
        int length = digits(row).length;
        Ranked there = ends[length][row % 10 - 1];
        if (there == null || weight < there.weight || weight == there.weight && row < there.row) {
            Ranked end = new Ranked();
            end.row = row;
            end.weight = weight;
            ends[length][row % 10 - 1] = end;
        }
    }

    private List<long[]> lattice(long beam) {
        List<long[]> arcs = new ArrayList<>();
        int count = frames.size();
        long[][][] least = new long[count + 1][count + 1][words.size()];
        boolean[][][] there = new boolean[count + 1][count + 1][words.size()];
        for (Route route : allRoutes()) {
            for (int i = 0; i < route.words.length; i++) {
                int from = route.cuts[i];
                int to = route.cuts[i + 1];
                int word = route.words[i];
                if (!there[from][to][word] || route.weight < least[from][to][word]) {
                    least[from][to][word] = route.weight;
                    there[from][to][word] = true;
                }
            }
        }
        for (int from = 0; from < count; from++) {
            for (int to = from + 1; to <= count; to++) {
                for (int word = 0; word < words.size(); word++) {
                    if (there[from][to][word]) {
                        long slack = least[from][to][word] - bestRoute().weight;
                        if (slack <= beam) {
                            arcs.add(new long[] {word, from, to, slack});
                        }
                    }
                }
            }
        }
        return arcs;
    }

    private static int changes(String one, String other) {
        if (one.isEmpty() || other.isEmpty()) {
            return one.length() + other.length();
        }
        int swap = changes(one.substring(1), other.substring(1)) + (one.charAt(0) == other.charAt(0) ? 0 : 1);
        int out = changes(one.substring(1), other) + 1;
        int in = changes(one, other.substring(1)) + 1;
        return Math.min(swap, Math.min(out, in));
    }
}
