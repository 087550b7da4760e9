import java.util.Arrays;

/** Speech as a machine hears it: what is heard, told, learnt, searched and asked there. */
public final class Latticehear {
    /** None; the START ahead of a ROW, the END behind it. */
    public static final int NONE = -1;
    /** Sides of QUESTIONS. */
    public static final int LEFT = 0, RIGHT = 1;

    private static final int FRAMES = 16;
    private static final int EDGES = FRAMES + 1;
    private static final int SPEAKERS = 4;
    private static final int NUMBERS = 3;
    private static final int SOUNDS = 6;
    private static final int QUESTIONS = 3;
    private static final int FORMS = QUESTIONS + 1;
    private static final int LETTERS = 4;
    private static final int WORDS = 5;
    private static final int SAYINGS = 2;
    private static final int PLACES = 4;
    private static final int HIGHEST_ROW = 9999;
    /** All ROWS of 1 to 4 of 5 WORDS, and those of 1 to 3, to which a WORD can be put. */
    private static final int ROWS = 780, PARENTS = 155;
    /** ENDS of one t: one for each length and last WORD. */
    private static final int SLOTS = PLACES * WORDS;
    private static final int TOLD_OF_FRAME = 6;

    private static final int FARTHEST = 30000;
    private static final int WIDEST = 99;
    private static final int WHOLE_SET = 63;
    private static final int FARTHEST_MOVE = 3000;
    private static final int DEAREST = 9999;
    private static final int DEAREST_BACK = 99999;
    private static final int GREATEST_FACTOR = 99;
    private static final int SUMS = 9;

    /** Stands for a weight that there is not; so far above all weights that four of them still add up. */
    private static final long NEVER = 1L << 60;

    private final Hearing hearing = new Hearing();
    private final Lexicon lexicon = new Lexicon();
    private final Language language = new Language();
    private final CostTable table = new CostTable();
    private final RowTable rows = new RowTable();
    private final Search search = new Search();
    private final Lattice lattice = new Lattice();
    private final Track track = new Track();
    private final RowWords spelt = new RowWords();
    private final RowWords leading = new RowWords();
    private final int[][] changes = new int[PLACES + 1][PLACES + 1];

    /** No FRAMES, SOUNDS and WORDS. */
    public Latticehear() {
    }

    // ---- frames, speakers

    public int frame(int first, int second, int third) throws IllegalArgumentException, IllegalStateException {
        checkTriple(first, second, third);
        if (hearing.heard >= FRAMES) {
            throw new IllegalStateException("there are 16 frames");
        }
        setTriple(hearing.frames[hearing.heard], first, second, third);
        hearing.heard++;
        outdate();
        return hearing.heard;
    }

    public int silence() {
        int before = hearing.heard;
        hearing.heard = 0;
        outdate();
        return before;
    }

    public int speak(int speaker) throws IndexOutOfBoundsException {
        checkIndex(speaker, SPEAKERS);
        int before = hearing.speaker;
        hearing.speaker = speaker;
        outdate();
        return before;
    }

    public int shift(int speaker, int which, int number) throws IndexOutOfBoundsException, IllegalArgumentException {
        checkIndex(speaker, SPEAKERS);
        checkRange(which, 0, NUMBERS - 1);
        checkRange(number, -FARTHEST, FARTHEST);
        int before = hearing.shifts[speaker][which];
        hearing.shifts[speaker][which] = number;
        outdate();
        return before;
    }

    public int shiftOf(int speaker, int which) throws IndexOutOfBoundsException, IllegalArgumentException {
        checkIndex(speaker, SPEAKERS);
        checkRange(which, 0, NUMBERS - 1);
        return hearing.shifts[speaker][which];
    }

    public long fit() throws IllegalStateException {
        checkBest();
        readyTrack();
        int[] shift = hearing.shifts[hearing.speaker];
        for (int which = 0; which < NUMBERS; which++) {
            long moved = shift[which] + meanAbove(which);
            shift[which] = (int) Math.max(-FARTHEST, Math.min(FARTHEST, moved));
        }
        outdate();
        readyRows();
        return rows.leastWeight();
    }

    // ---- sounds, words

    public int sound(int first, int second, int third, int width) throws IllegalArgumentException, IllegalStateException {
        checkTriple(first, second, third);
        checkRange(width, 1, WIDEST);
        if (lexicon.soundCount >= SOUNDS) {
            throw new IllegalStateException("there are 6 sounds");
        }
        Sound told = lexicon.sounds[lexicon.soundCount];
        setTriple(told.centre, first, second, third);
        told.width = width;
        lexicon.soundCount++;
        outdate();
        return lexicon.soundCount - 1;
    }

    public int question(int sound, int side, int set, int move) throws IndexOutOfBoundsException, IllegalArgumentException, IllegalStateException {
        checkIndex(sound, lexicon.soundCount);
        checkRange(side, LEFT, RIGHT);
        checkRange(set, 0, WHOLE_SET);
        checkRange(move, -FARTHEST_MOVE, FARTHEST_MOVE);
        Sound asked = lexicon.sounds[sound];
        if (asked.asked >= QUESTIONS) {
            throw new IllegalStateException("the sound has three questions");
        }
        asked.ask(side, set, move);
        outdate();
        return asked.asked;
    }

    public int type(char letter) throws IllegalArgumentException, IllegalStateException {
        checkRange(letter, 'a', 'f');
        if (lexicon.typed >= LETTERS) {
            throw new IllegalStateException("the text has 4 letters");
        }
        lexicon.text[lexicon.typed] = letter - 'a';
        lexicon.typed++;
        return lexicon.typed;
    }

    public int word(int price) throws IllegalArgumentException, IllegalStateException {
        checkRange(price, 0, DEAREST);
        if (!lexicon.textCanBeSaid() || lexicon.wordCount >= WORDS) {
            throw new IllegalStateException("no word can be made of the text");
        }
        lexicon.addSaying(lexicon.wordCount, price);
        lexicon.wordCount++;
        outdate();
        return lexicon.wordCount - 1;
    }

    public int saying(int word, int price) throws IndexOutOfBoundsException, IllegalArgumentException, IllegalStateException {
        checkIndex(word, lexicon.wordCount);
        checkRange(price, 0, DEAREST);
        if (!lexicon.textCanBeSaid() || lexicon.sayingCounts[word] >= SAYINGS) {
            throw new IllegalStateException("no second saying can be made of the text");
        }
        int letters = lexicon.typed;
        lexicon.addSaying(word, price);
        outdate();
        return letters;
    }

    public int form(int word, int saying, int place) throws IndexOutOfBoundsException {
        checkIndex(word, lexicon.wordCount);
        checkIndex(saying, lexicon.sayingCounts[word]);
        Saying said = lexicon.sayingOf(word, saying);
        checkIndex(place, said.length);
        return lexicon.formAt(said, place);
    }

    public long cost(int frame, int sound, int form) throws IndexOutOfBoundsException, IllegalArgumentException {
        checkIndex(frame, hearing.heard);
        checkIndex(sound, lexicon.soundCount);
        checkRange(form, 0, lexicon.sounds[sound].asked);
        return hearing.costBy(frame, lexicon.sounds[sound], form);
    }

    public long over(int word, int from, int to) throws IndexOutOfBoundsException, IllegalArgumentException {
        checkIndex(word, lexicon.wordCount);
        checkRange(from, 0, hearing.heard - 1);
        checkRange(to, from + 1, hearing.heard);
        readyTable();
        return orNone(table.span(word, from, to));
    }

    // ---- language

    public int learn(int row) throws IllegalArgumentException {
        checkRow(row);
        spelt.read(row);
        for (int place = 0; place <= spelt.length; place++) {
            language.count(spelt.wordAt(place - 1), spelt.wordAt(place));
        }
        outdate();
        return language.counted;
    }

    public int back(int back) throws IllegalArgumentException {
        checkRange(back, 0, DEAREST_BACK);
        int before = language.back;
        language.back = back;
        outdate();
        return before;
    }

    public int factor(int factor) throws IllegalArgumentException {
        checkRange(factor, 0, GREATEST_FACTOR);
        int before = language.factor;
        language.factor = factor;
        outdate();
        return before;
    }

    public long price(int ahead, int behind) throws IndexOutOfBoundsException {
        checkWordOrNone(ahead);
        checkWordOrNone(behind);
        return language.priceOf(ahead, behind);
    }

    // ---- rows, the search

    public long weight(int row) throws IllegalArgumentException {
        checkRow(row);
        readyRows();
        return orNone(rows.weightOf(row));
    }

    public long weightAnew(int row) throws IllegalArgumentException {
        checkRow(row);
        readyTable();
        spelt.read(row);
        return orNone(tryWords(spelt, table, lexicon, hearing.heard, 0, 0));
    }

    public int best(int place) throws IllegalArgumentException {
        checkAtLeast(place, 0);
        readyRows();
        return rows.numberAt(place);
    }

    public long found(long beam, int most, int what) throws IllegalArgumentException {
        checkAtLeast(beam, 0);
        checkAtLeast(most, 1);
        checkRange(what, 0, 2);
        readyTable();
        search.run(table, lexicon.wordCount, hearing.heard, beam, most);
        if (what == 0) {
            return search.reachedRow;
        }
        return what == 1 ? search.reachedWeight : search.dropped;
    }

    public int arcs(long beam) throws IllegalArgumentException {
        checkAtLeast(beam, 0);
        readyLattice();
        return lattice.countWithin(beam);
    }

    public long arc(long beam, int arc, int what) throws IndexOutOfBoundsException, IllegalArgumentException {
        checkAtLeast(beam, 0);
        readyLattice();
        checkIndex(arc, lattice.countWithin(beam));
        checkRange(what, 0, 3);
        return lattice.tellWithin(beam, arc, what);
    }

    public long keyword(int word) throws IndexOutOfBoundsException {
        checkIndex(word, lexicon.wordCount);
        readyLattice();
        return orNone(lattice.leastSlackOf(word));
    }

    public int sure(long beam, int frame) throws IndexOutOfBoundsException, IllegalArgumentException, IllegalStateException {
        checkIndex(frame, hearing.heard);
        checkAtLeast(beam, 0);
        checkBest();
        readyTrack();
        readyLattice();
        int agreeing = lattice.countAround(beam, frame, track.told[1][frame]);
        return partBits(agreeing, lattice.countAround(beam, frame, NONE));
    }

    public int path(int frame, int what) throws IndexOutOfBoundsException, IllegalArgumentException, IllegalStateException {
        checkIndex(frame, hearing.heard);
        checkRange(what, 0, TOLD_OF_FRAME - 1);
        checkBest();
        readyTrack();
        return track.told[what][frame];
    }

    public int errors(int row) throws IllegalArgumentException, IllegalStateException {
        checkRow(row);
        checkBest();
        leading.read(rows.numberAt(0));
        spelt.read(row);
        return fewestChanges(leading, spelt);
    }

    public int sum(int what) throws IllegalArgumentException {
        checkRange(what, 0, SUMS - 1);
        switch (what) {
            case 0: return hearing.heard;
            case 1: return lexicon.soundCount;
            case 2: return lexicon.wordCount;
            case 3: return language.counted;
            case 4: return lexicon.typed;
            case 5: return hearing.speaker;
            case 6: return language.back;
            case 7: return language.factor;
            default:
                readyRows();
                return rows.weighed;
        }
    }

    // ---- what is refused

    private static void checkRange(int number, int least, int most) {
        if (number < least || number > most) {
            throw new IllegalArgumentException("out of range");
        }
    }

    private static void checkAtLeast(long number, long least) {
        if (number < least) {
            throw new IllegalArgumentException("out of range");
        }
    }

    private static void checkIndex(int index, int count) {
        if (index < 0 || index >= count) {
            throw new IndexOutOfBoundsException("there is no such one");
        }
    }

    private static void checkTriple(int first, int second, int third) {
        checkRange(first, -FARTHEST, FARTHEST);
        checkRange(second, -FARTHEST, FARTHEST);
        checkRange(third, -FARTHEST, FARTHEST);
    }

    private void checkWordOrNone(int word) {
        if (word != NONE) {
            checkIndex(word, lexicon.wordCount);
        }
    }

    private void checkRow(int row) {
        checkRange(row, 1, HIGHEST_ROW);
        for (int rest = row; rest > 0; rest /= 10) {
            checkRange(rest % 10, 1, lexicon.wordCount);
        }
    }

    private void checkBest() {
        readyRows();
        if (rows.weighed == 0) {
            throw new IllegalStateException("there is no best row");
        }
    }

    // ---- what is worked out when it is asked, and kept until something changes

    private void outdate() {
        table.fresh = false;
        rows.fresh = false;
        lattice.fresh = false;
        track.fresh = false;
    }

    private void readyTable() {
        if (!table.fresh) {
            table.fill(hearing, lexicon, language);
        }
    }

    private void readyRows() {
        if (!table.fresh) {
            table.fill(hearing, lexicon, language);
        }
        if (!rows.fresh) {
            rows.fill(table, lexicon.wordCount, hearing.heard);
        }
    }

    private void readyLattice() {
        readyRows();
        if (!lattice.fresh) {
            lattice.fill(table, lexicon.wordCount, hearing.heard, rows.leastWeight());
        }
    }

    private void readyTrack() {
        readyRows();
        if (!track.fresh) {
            leading.read(rows.numberAt(0));
            track.fill(leading, table, lexicon, hearing.heard);
        }
    }

    // ---- small reckonings

    private static void setTriple(int[] triple, int first, int second, int third) {
        triple[0] = first;
        triple[1] = second;
        triple[2] = third;
    }

    private static long orNone(long weight) {
        return weight >= NEVER ? NONE : weight;
    }

    private long meanAbove(int which) {
        if (hearing.heard == 0) {
            return 0;
        }
        long sum = 0;
        for (int frame = 0; frame < hearing.heard; frame++) {
            Sound given = lexicon.sounds[track.told[4][frame]];
            sum += hearing.clean(frame, which) - given.liesAt(which, track.told[5][frame]);
        }
        return Math.floorDiv(sum, (long) hearing.heard);
    }

    private static long tryWords(RowWords row, CostTable table, Lexicon lexicon, int frames, int place, int from) {
        int ahead = row.wordAt(place - 1);
        if (place >= row.length) {
            return from == frames ? table.toll(ahead, NONE) : NEVER;
        }
        int word = row.wordAt(place);
        long least = NEVER;
        for (int to = from + 1; to <= frames; to++) {
            long rest = tryWords(row, table, lexicon, frames, place + 1, to);
            if (rest < NEVER) {
                least = Math.min(least, rest + trySayings(word, table, lexicon, from, to));
            }
        }
        return least >= NEVER ? NEVER : least + table.toll(ahead, word);
    }

    private static long trySayings(int word, CostTable table, Lexicon lexicon, int from, int to) {
        long least = NEVER;
        for (int s = 0; s < lexicon.sayingCounts[word]; s++) {
            Saying saying = lexicon.sayingOf(word, s);
            least = Math.min(least, saying.fee + trySounds(saying, table, 0, from, to));
        }
        return least;
    }

    private static long trySounds(Saying saying, CostTable table, int place, int from, int to) {
        if (place >= saying.length) {
            return from == to ? 0 : NEVER;
        }
        long[] costs = table.near[saying.kinds[place]];
        long least = NEVER;
        long taken = 0;
        for (int cut = from + 1; cut <= to; cut++) {
            taken += costs[cut - 1];
            least = Math.min(least, taken + trySounds(saying, table, place + 1, cut, to));
        }
        return least;
    }

    private int fewestChanges(RowWords one, RowWords other) {
        for (int i = 0; i <= one.length; i++) {
            for (int j = 0; j <= other.length; j++) {
                changes[i][j] = i == 0 || j == 0 ? i + j : changesHere(one, other, i, j);
            }
        }
        return changes[one.length][other.length];
    }

    private int changesHere(RowWords one, RowWords other, int i, int j) {
        int kept = one.wordAt(i - 1) == other.wordAt(j - 1) ? 0 : 1;
        int outOrIn = 1 + Math.min(changes[i - 1][j], changes[i][j - 1]);
        return Math.min(outOrIn, changes[i - 1][j - 1] + kept);
    }

    // The library's way to a float's bits is not open to this program, so they are put together here;
    // the part is above 0 and not above 1, so doubling it soon brings it to 1 or more, without rounding.
    private static int partBits(int part, int all) {
        if (part <= 0 || all <= 0) {
            return 0;
        }
        float share = (float) part / (float) all;
        int exponent = 127;
        for (int step = 0; step < 127 && share < 1.0f; step++) {
            share = share * 2.0f;
            exponent--;
        }
        int fraction = (int) ((share - 1.0f) * 8388608.0f);
        return exponent << 23 | fraction;
    }

    /** The FRAMES, and the SPEAKERS with their SHIFTS. */
    private static final class Hearing {
        final int[][] frames = new int[FRAMES][NUMBERS];
        final int[][] shifts = new int[SPEAKERS][NUMBERS];
        int heard = 0;
        int speaker = 0;

        int clean(int frame, int which) {
            return frames[frame][which] - shifts[speaker][which];
        }

        long costBy(int frame, Sound sound, int form) {
            long squares = 0;
            for (int which = 0; which < NUMBERS; which++) {
                long far = clean(frame, which) - sound.liesAt(which, form);
                squares += far * far;
            }
            return squares / sound.width;
        }
    }

    /** A SOUND with its QUESTIONS. */
    private static final class Sound {
        final int[] centre = new int[NUMBERS];
        int width = 1;
        final int[] sides = new int[QUESTIONS];
        final int[] sets = new int[QUESTIONS];
        final int[] moves = new int[QUESTIONS];
        int asked = 0;

        void ask(int side, int set, int move) {
            sides[asked] = side;
            sets[asked] = set;
            moves[asked] = move;
            asked++;
        }

        int formBetween(int left, int right) {
            for (int q = 0; q < asked; q++) {
                int neighbour = sides[q] == LEFT ? left : right;
                if (neighbour != NONE && (sets[q] >> neighbour & 1) == 1) {
                    return q + 1;
                }
            }
            return 0;
        }

        int liesAt(int which, int form) {
            return form == 0 ? centre[which] : centre[which] + moves[form - 1];
        }
    }

    /** A SAYING; the kind of a SOUND in it tells the SOUND and the FORM that it has there. */
    private static final class Saying {
        final int[] sounds = new int[LETTERS];
        final int[] kinds = new int[LETTERS];
        int length = 0;
        int fee = 0;

        int soundAt(int place) {
            return place < 0 || place >= length ? NONE : sounds[place];
        }
    }

    /** The SOUNDS, the WORDS and THE TEXT. */
    private static final class Lexicon {
        final Sound[] sounds = new Sound[SOUNDS];
        int soundCount = 0;
        final Saying[] sayings = new Saying[WORDS * SAYINGS];
        final int[] sayingCounts = new int[WORDS];
        int wordCount = 0;
        final int[] text = new int[LETTERS];
        int typed = 0;

        Lexicon() {
            for (int s = 0; s < SOUNDS; s++) {
                sounds[s] = new Sound();
            }
            for (int s = 0; s < WORDS * SAYINGS; s++) {
                sayings[s] = new Saying();
            }
        }

        Saying sayingOf(int word, int saying) {
            return sayings[word * SAYINGS + saying];
        }

        boolean textCanBeSaid() {
            for (int place = 0; place < typed; place++) {
                if (text[place] >= soundCount) {
                    return false;
                }
            }
            return typed > 0;
        }

        void addSaying(int word, int fee) {
            Saying added = sayingOf(word, sayingCounts[word]);
            System.arraycopy(text, 0, added.sounds, 0, typed);
            added.length = typed;
            added.fee = fee;
            sayingCounts[word]++;
            typed = 0;
        }

        int formAt(Saying saying, int place) {
            Sound sound = sounds[saying.sounds[place]];
            return sound.formBetween(saying.soundAt(place - 1), saying.soundAt(place + 1));
        }
    }

    /** The pairs that were counted, and what they make of PRICES; START and END have the index 0. */
    private static final class Language {
        final int[][] pairs = new int[WORDS + 1][WORDS + 1];
        final int[] begun = new int[WORDS + 1];
        final int[] ended = new int[WORDS + 1];
        int counted = 0;
        int back = 500;
        int factor = 1;

        void count(int ahead, int behind) {
            pairs[ahead + 1][behind + 1]++;
            begun[ahead + 1]++;
            ended[behind + 1]++;
            counted++;
        }

        long priceOf(int ahead, int behind) {
            int seen = pairs[ahead + 1][behind + 1];
            if (seen > 0) {
                return 100L * (logarithm(begun[ahead + 1]) - logarithm(seen));
            }
            return back + 100L * (logarithm(counted + 6) - logarithm(ended[behind + 1] + 1));
        }

        static long logarithm(int n) {
            int doublings = 0;
            for (int rest = n; rest > 1; rest >>= 1) {
                doublings++;
            }
            return 8L * doublings + (8L * n >> doublings) - 8;
        }
    }

    /** A ROW taken apart. */
    private static final class RowWords {
        final int[] words = new int[PLACES];
        int length = 0;

        void read(int row) {
            length = row < 10 ? 1 : row < 100 ? 2 : row < 1000 ? 3 : PLACES;
            int rest = row;
            for (int place = length - 1; place >= 0; place--) {
                words[place] = rest % 10 - 1;
                rest /= 10;
            }
        }

        int wordAt(int place) {
            return place < 0 || place >= length ? NONE : words[place];
        }
    }

    /** The COST of each FRAME by each kind of SOUND and of each WORD over FRAMES; the PRICES with the FACTOR. */
    private static final class CostTable {
        final long[][] near = new long[SOUNDS * FORMS][FRAMES];
        final long[] spans = new long[WORDS * EDGES * EDGES];
        final long[][] tolls = new long[WORDS + 1][WORDS + 1];
        final long[] reach = new long[LETTERS];
        boolean fresh = false;

        long span(int word, int from, int to) {
            return spans[(word * EDGES + from) * EDGES + to];
        }

        long toll(int ahead, int behind) {
            return tolls[ahead + 1][behind + 1];
        }

        void fill(Hearing hearing, Lexicon lexicon, Language language) {
            for (int s = 0; s < lexicon.soundCount; s++) {
                fillNear(s, lexicon.sounds[s], hearing);
            }
            Arrays.fill(spans, NEVER);
            for (int w = 0; w < lexicon.wordCount; w++) {
                for (int s = 0; s < lexicon.sayingCounts[w]; s++) {
                    fillSpans(w, lexicon.sayingOf(w, s), lexicon, hearing.heard);
                }
            }
            for (int ahead = NONE; ahead < lexicon.wordCount; ahead++) {
                for (int behind = NONE; behind < lexicon.wordCount; behind++) {
                    tolls[ahead + 1][behind + 1] = language.factor * language.priceOf(ahead, behind);
                }
            }
            fresh = true;
        }

        private void fillNear(int number, Sound sound, Hearing hearing) {
            for (int form = 0; form <= sound.asked; form++) {
                for (int frame = 0; frame < hearing.heard; frame++) {
                    near[number * FORMS + form][frame] = hearing.costBy(frame, sound, form);
                }
            }
        }

        private void fillSpans(int word, Saying saying, Lexicon lexicon, int frames) {
            for (int place = 0; place < saying.length; place++) {
                saying.kinds[place] = saying.sounds[place] * FORMS + lexicon.formAt(saying, place);
            }
            for (int from = 0; from < frames; from++) {
                Arrays.fill(reach, NEVER);
                for (int to = from + 1; to <= frames; to++) {
                    int at = (word * EDGES + from) * EDGES + to;
                    giveFrame(saying, to - 1, to - 1 == from);
                    spans[at] = Math.min(spans[at], reach[saying.length - 1]);
                }
            }
        }

        // From the last SOUND to the first, so that the SOUND ahead still has what it reached without this FRAME.
        private void giveFrame(Saying saying, int frame, boolean first) {
            for (int place = saying.length - 1; place >= 0; place--) {
                long entered = place > 0 ? reach[place - 1] : first ? saying.fee : NEVER;
                long least = Math.min(reach[place], entered);
                reach[place] = least >= NEVER ? NEVER : least + near[saying.kinds[place]][frame];
            }
        }
    }

    /**
     * The WEIGHTS of all ROWS, in the order of their numbers: behind the ROWS of one WORD, at the indices 0 and
     * on, those of two, and so on; with n WORDS the ROW at index i has, with one more, those from n * (i + 1).
     */
    private static final class RowTable {
        final int[] numbers = new int[ROWS];
        final long[] weights = new long[ROWS];
        final long[] reach = new long[PARENTS * EDGES];
        int[] order = new int[ROWS];
        int[] spare = new int[ROWS];
        int words = 0;
        int count = 0;
        int weighed = 0;
        int leader = NONE;
        boolean fresh = false;
        boolean sorted = false;

        void fill(CostTable table, int wordCount, int frames) {
            words = wordCount;
            count = 0;
            weighed = 0;
            leader = NONE;
            addChildren(NONE, table, frames);
            for (int parent = 0; parent < count && parent < PARENTS && numbers[parent] < 1000; parent++) {
                addChildren(parent, table, frames);
            }
            sorted = false;
            fresh = true;
        }

        private void addChildren(int parent, CostTable table, int frames) {
            for (int word = 0; word < words && count < ROWS; word++) {
                numbers[count] = parent == NONE ? word + 1 : numbers[parent] * 10 + word + 1;
                if (numbers[count] < 1000 && count < PARENTS) {
                    for (int to = 0; to <= frames; to++) {
                        reach[count * EDGES + to] = arrive(parent, word, to, table);
                    }
                }
                long covered = arrive(parent, word, frames, table);
                weights[count] = covered >= NEVER ? NEVER : covered + table.toll(word, NONE);
                if (covered < NEVER) {
                    weighed++;
                    leader = leader == NONE || weights[count] < weights[leader] ? count : leader;
                }
                count++;
            }
        }

        /** The least that the ROW at parent with the WORD behind it takes over the FRAMES ahead of to. */
        private long arrive(int parent, int word, int to, CostTable table) {
            long least = NEVER;
            if (parent == NONE) {
                least = table.span(word, 0, to);
            } else {
                for (int cut = 1; cut < to; cut++) {
                    least = Math.min(least, reach[parent * EDGES + cut] + table.span(word, cut, to));
                }
            }
            int last = parent == NONE ? NONE : numbers[parent] % 10 - 1;
            return least >= NEVER ? NEVER : least + table.toll(last, word);
        }

        long leastWeight() {
            return leader == NONE ? NEVER : weights[leader];
        }

        long weightOf(int row) {
            int index = NONE;
            for (int unit = 1000; unit > 0; unit /= 10) {
                if (row >= unit) {
                    index = words * (index + 1) + row / unit % 10 - 1;
                }
            }
            return index < 0 || index >= count ? NEVER : weights[index];
        }

        int numberAt(int place) {
            if (place >= weighed) {
                return NONE;
            }
            if (place == 0) {
                return leader == NONE ? NONE : numbers[leader];
            }
            if (!sorted) {
                sort();
            }
            return numbers[order[place]];
        }

        // Parts that are in order are merged; of two with one weight the one with the lower index stays ahead.
        private void sort() {
            int length = 0;
            for (int index = 0; index < count; index++) {
                if (weights[index] < NEVER) {
                    order[length] = index;
                    length++;
                }
            }
            for (int part = 1; part < length; part *= 2) {
                for (int from = 0; from < length; from += 2 * part) {
                    merge(from, Math.min(from + part, length), Math.min(from + 2 * part, length));
                }
                int[] merged = spare;
                spare = order;
                order = merged;
            }
            sorted = true;
        }

        private void merge(int from, int middle, int to) {
            int left = from;
            int right = middle;
            for (int at = from; at < to; at++) {
                boolean takesLeft = left < middle
                    && (right >= to || weights[order[left]] <= weights[order[right]]);
                spare[at] = takesLeft ? order[left] : order[right];
                if (takesLeft) {
                    left++;
                } else {
                    right++;
                }
            }
        }
    }

    /** The search with a BEAM and a MOST: at each t a slot for each length and last WORD. */
    private static final class Search {
        final long[] weights = new long[EDGES * SLOTS];
        final int[] numbers = new int[EDGES * SLOTS];
        final boolean[] late = new boolean[SLOTS];
        int dropped = 0;
        int reachedRow = NONE;
        long reachedWeight = NONE;

        void run(CostTable table, int words, int frames, long beam, int most) {
            dropped = 0;
            Arrays.fill(weights, NEVER);
            for (int t = 1; t <= frames; t++) {
                for (int word = 0; word < words; word++) {
                    putEnd(t * SLOTS + word, table.span(word, 0, t) + table.toll(NONE, word), word + 1);
                    for (int length = 2; length <= PLACES; length++) {
                        lengthen(table, words, t, length, word);
                    }
                }
                dropDear(t * SLOTS, beam);
                dropLate(t * SLOTS, most);
            }
            finish(table, words, frames);
        }

        private void lengthen(CostTable table, int words, int t, int length, int word) {
            for (int cut = 1; cut < t; cut++) {
                long over = table.span(word, cut, t);
                for (int last = 0; last < words && over < NEVER; last++) {
                    int ahead = cut * SLOTS + (length - 2) * WORDS + last;
                    long taken = weights[ahead] + over + table.toll(last, word);
                    putEnd(t * SLOTS + (length - 1) * WORDS + word, taken, numbers[ahead] * 10 + word + 1);
                }
            }
        }

        private void putEnd(int slot, long taken, int number) {
            if (taken < NEVER && (taken < weights[slot] || taken == weights[slot] && number < numbers[slot])) {
                weights[slot] = taken;
                numbers[slot] = number;
            }
        }

        private void dropDear(int base, long beam) {
            long least = NEVER;
            for (int slot = base; slot < base + SLOTS; slot++) {
                least = Math.min(least, weights[slot]);
            }
            for (int slot = base; slot < base + SLOTS; slot++) {
                if (weights[slot] < NEVER && weights[slot] - least > beam) {
                    drop(slot);
                }
            }
        }

        private void dropLate(int base, int most) {
            for (int slot = 0; slot < SLOTS; slot++) {
                late[slot] = weights[base + slot] < NEVER && countAhead(base, base + slot) >= most;
            }
            for (int slot = 0; slot < SLOTS; slot++) {
                if (late[slot]) {
                    drop(base + slot);
                }
            }
        }

        private void drop(int slot) {
            weights[slot] = NEVER;
            dropped++;
        }

        // A ROW of fewer WORDS has a lower number, so the number alone settles what the weight leaves open.
        private int countAhead(int base, int slot) {
            int ahead = 0;
            for (int other = base; other < base + SLOTS; other++) {
                boolean lighter = weights[other] < weights[slot];
                boolean before = weights[other] == weights[slot] && numbers[other] < numbers[slot];
                ahead += weights[other] < NEVER && (lighter || before) ? 1 : 0;
            }
            return ahead;
        }

        private void finish(CostTable table, int words, int frames) {
            reachedRow = NONE;
            reachedWeight = NONE;
            for (int length = 1; length <= PLACES; length++) {
                for (int word = 0; word < words; word++) {
                    int slot = frames * SLOTS + (length - 1) * WORDS + word;
                    long whole = weights[slot] + table.toll(word, NONE);
                    boolean lighter = reachedRow == NONE || whole < reachedWeight;
                    boolean before = whole == reachedWeight && numbers[slot] < reachedRow;
                    if (weights[slot] < NEVER && (lighter || before)) {
                        reachedRow = numbers[slot];
                        reachedWeight = whole;
                    }
                }
            }
        }
    }

    /** The SLACK of each ARC, NEVER where it is in no PATH. */
    private static final class Lattice {
        final long[] slacks = new long[WORDS * EDGES * EDGES];
        /** By how many WORDS are ahead, the WORD, and where it begins: the least of all ahead, PRICES and all. */
        final long[] leads = new long[PLACES * WORDS * EDGES];
        /** By how many WORDS may still follow, the WORD, and where it ends: the least of all behind. */
        final long[] trails = new long[PLACES * WORDS * EDGES];
        int words = 0;
        int frames = 0;
        boolean fresh = false;

        void fill(CostTable table, int wordCount, int frameCount, long least) {
            words = wordCount;
            frames = frameCount;
            for (int others = 0; others < PLACES; others++) {
                for (int word = 0; word < words; word++) {
                    for (int edge = 0; edge <= frames; edge++) {
                        leads[index(others, word, edge)] = leadOf(others, word, edge, table);
                        trails[index(others, word, edge)] = trailOf(others, word, edge, table);
                    }
                }
            }
            for (int word = 0; word < words; word++) {
                for (int from = 0; from < frames; from++) {
                    for (int to = from + 1; to <= frames; to++) {
                        long whole = leastThrough(word, from, to) + table.span(word, from, to);
                        slacks[arcAt(word, from, to)] = whole >= NEVER ? NEVER : whole - least;
                    }
                }
            }
            fresh = true;
        }

        private static int index(int others, int word, int edge) {
            return (others * WORDS + word) * EDGES + edge;
        }

        private static int arcAt(int word, int from, int to) {
            return (word * EDGES + from) * EDGES + to;
        }

        private long leadOf(int others, int word, int from, CostTable table) {
            if (others == 0) {
                return from == 0 ? table.toll(NONE, word) : NEVER;
            }
            long least = NEVER;
            for (int cut = 0; cut < from; cut++) {
                for (int ahead = 0; ahead < words; ahead++) {
                    long taken = leads[index(others - 1, ahead, cut)] + table.span(ahead, cut, from);
                    least = Math.min(least, taken + table.toll(ahead, word));
                }
            }
            return least;
        }

        private long trailOf(int others, int word, int to, CostTable table) {
            if (to == frames) {
                return table.toll(word, NONE);
            }
            long least = NEVER;
            for (int cut = to + 1; cut <= frames && others > 0; cut++) {
                for (int behind = 0; behind < words; behind++) {
                    long taken = trails[index(others - 1, behind, cut)] + table.span(behind, to, cut);
                    least = Math.min(least, taken + table.toll(word, behind));
                }
            }
            return least;
        }

        private long leastThrough(int word, int from, int to) {
            long least = NEVER;
            for (int others = 0; others < PLACES; others++) {
                long lead = leads[index(others, word, from)];
                least = Math.min(least, lead + trails[index(PLACES - 1 - others, word, to)]);
            }
            return least;
        }

        private boolean isWithin(long beam, int word, int from, int to) {
            long slack = slacks[arcAt(word, from, to)];
            return slack < NEVER && slack <= beam;
        }

        int countWithin(long beam) {
            int count = 0;
            for (int from = 0; from < frames; from++) {
                for (int to = from + 1; to <= frames; to++) {
                    for (int word = 0; word < words; word++) {
                        count += isWithin(beam, word, from, to) ? 1 : 0;
                    }
                }
            }
            return count;
        }

        long tellWithin(long beam, int arc, int what) {
            int passed = 0;
            for (int from = 0; from < frames; from++) {
                for (int to = from + 1; to <= frames; to++) {
                    for (int word = 0; word < words; word++) {
                        if (isWithin(beam, word, from, to)) {
                            if (passed == arc) {
                                return what == 0 ? word : what == 1 ? from : what == 2 ? to : slacks[arcAt(word, from, to)];
                            }
                            passed++;
                        }
                    }
                }
            }
            return NONE;
        }

        long leastSlackOf(int word) {
            long least = NEVER;
            for (int from = 0; from < frames; from++) {
                for (int to = from + 1; to <= frames; to++) {
                    least = Math.min(least, slacks[arcAt(word, from, to)]);
                }
            }
            return least;
        }

        /** How many ARCS of the lattice have the FRAME, with this WORD; with any, if it is NONE. */
        int countAround(long beam, int frame, int only) {
            int count = 0;
            for (int from = 0; from <= frame; from++) {
                for (int to = frame + 1; to <= frames; to++) {
                    for (int word = 0; word < words; word++) {
                        boolean asked = only == NONE || only == word;
                        count += asked && isWithin(beam, word, from, to) ? 1 : 0;
                    }
                }
            }
            return count;
        }
    }

    /** The BEST PATH, told for each FRAME. */
    private static final class Track {
        final int[][] told = new int[TOLD_OF_FRAME][FRAMES];
        final long[] rests = new long[(PLACES + 1) * EDGES];
        final long[] tails = new long[(LETTERS + 1) * EDGES];
        boolean fresh = false;

        void fill(RowWords row, CostTable table, Lexicon lexicon, int frames) {
            fillRests(row, table, frames);
            int from = 0;
            for (int place = 0; place < row.length; place++) {
                int to = firstCut(row, table, place, from, frames);
                sayWord(place, row.wordAt(place), table, lexicon, from, to);
                from = to;
            }
            fresh = true;
        }

        /** By the place in the ROW and a FRAME: the least that the WORDS from there on take from there on. */
        private void fillRests(RowWords row, CostTable table, int frames) {
            Arrays.fill(rests, NEVER);
            rests[row.length * EDGES + frames] = 0;
            for (int place = row.length - 1; place >= 0; place--) {
                for (int from = 0; from < frames; from++) {
                    long least = NEVER;
                    for (int to = from + 1; to <= frames; to++) {
                        least = Math.min(least, table.span(row.wordAt(place), from, to) + rests[(place + 1) * EDGES + to]);
                    }
                    rests[place * EDGES + from] = least;
                }
            }
        }

        private int firstCut(RowWords row, CostTable table, int place, int from, int frames) {
            for (int to = from + 1; to < frames; to++) {
                long taken = table.span(row.wordAt(place), from, to) + rests[(place + 1) * EDGES + to];
                if (taken == rests[place * EDGES + from]) {
                    return to;
                }
            }
            return frames;
        }

        private void sayWord(int place, int word, CostTable table, Lexicon lexicon, int from, int to) {
            int chosen = 0;
            Saying said = lexicon.sayingOf(word, 0);
            fillTails(said, table, from, to);
            if (lexicon.sayingCounts[word] > 1 && said.fee + tails[from] > table.span(word, from, to)) {
                chosen = 1;
                said = lexicon.sayingOf(word, 1);
                fillTails(said, table, from, to);
            }
            for (int frame = from; frame < to; frame++) {
                told[0][frame] = place;
                told[1][frame] = word;
                told[2][frame] = chosen;
            }
            sayAll(said, from, to);
        }

        /** By the place in the SAYING and a FRAME: the least that the SOUNDS from there on take up to the FRAME to. */
        private void fillTails(Saying saying, CostTable table, int from, int to) {
            Arrays.fill(tails, NEVER);
            tails[saying.length * EDGES + to] = 0;
            for (int frame = to - 1; frame >= from; frame--) {
                for (int place = saying.length - 1; place >= 0; place--) {
                    long goes = tails[(place + 1) * EDGES + frame + 1];
                    long stays = tails[place * EDGES + frame + 1];
                    long least = Math.min(goes, stays);
                    long here = table.near[saying.kinds[place]][frame];
                    tails[place * EDGES + frame] = least >= NEVER ? NEVER : least + here;
                }
            }
        }

        // To leave a SOUND as soon as that is no dearer gives the SOUNDS ahead the fewest FRAMES.
        private void sayAll(Saying saying, int from, int to) {
            int place = 0;
            for (int frame = from; frame < to && place < saying.length; frame++) {
                int kind = saying.kinds[place];
                told[3][frame] = place;
                told[4][frame] = kind / FORMS;
                told[5][frame] = kind % FORMS;
                long goes = tails[(place + 1) * EDGES + frame + 1];
                long stays = tails[place * EDGES + frame + 1];
                place += goes <= stays ? 1 : 0;
            }
        }
    }
}
