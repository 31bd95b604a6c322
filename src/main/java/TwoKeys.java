/**
 * A maker's room for small keyboards whose neighbours strike the same string at two places.
 * Refusals are answered as numbers, which a true ERROR may be as well; no call ever throws.
 */
public final class TwoKeys {
    public static final int UNKNOWN = -100001, BAD = -100002, STATE = -100003, FULL = -100004, NONE = -100009;

    private static final int MOST_KEYS = 24, FIRST_KEYS = 12;
    private static final int STRINGS = 24;
    private static final int LEAST_TENSION = 100, MOST_TENSION = 20000, FIRST_TENSION = 4000;
    private static final int LEAST_LENGTH = 500, MOST_LENGTH = 9999, FIRST_LENGTH = 5000;
    private static final int MOST_BENT = 40;
    private static final int MOST_PRESS = 20;
    private static final int SCALES = 5, STEPS = 12;
    private static final int MOST_SHARE = 999, MOST_TIMES = 4;
    private static final int LEAST_PITCH = 1000, MOST_PITCH = 200000, FIRST_PITCH = 8000, PITCH_STRIDE = 20;
    private static final int PIECES = 4, MOST_NOTES = 40;
    private static final int LAST_BEGIN = 999, MOST_TICKS = 99, LAST_TICK = 1100;
    private static final int MOST_REST = 20, FIRST_REST = 1;
    private static final int SHORTEST_TRILL = 4;
    private static final int MOST_PER_STRING = 6;
    private static final int LEAST_TONE = 100, MOST_TONE = 400000;
    private static final int NO_KEY = -1;

    private final Board board;
    private final Scales scales;
    private final Music music;
    private final Sharing sharing;
    private final OldOne oldOne;
    private int scaleInUse = 0;
    private int pitchNow = FIRST_PITCH;
    private int restNow = FIRST_REST;
    private int bookNow = 0;

    public TwoKeys() {
        board = new Board();
        scales = new Scales();
        music = new Music(board);
        sharing = new Sharing();
        oldOne = new OldOne(board, scales);
    }

    // ---- keys, strings, tones

    public int keys(int n) {
        if (!within(n, 1, MOST_KEYS)) return BAD;
        int before = board.size;
        board.size = n;
        return before;
    }

    public int strike(int key, int string, int length) {
        if (!board.has(key) || !isString(string)) return UNKNOWN;
        if (!within(length, LEAST_LENGTH, MOST_LENGTH)) return BAD;
        int before = board.struck[key];
        board.struck[key] = string;
        board.lengths[key] = length;
        board.bends[key] = 0;
        return before;
    }

    public int tension(int string, int v) {
        if (!isString(string)) return UNKNOWN;
        if (!within(v, LEAST_TENSION, MOST_TENSION)) return BAD;
        int before = board.tensions[string];
        board.tensions[string] = v;
        return before;
    }

    public int bend(int key, int v) {
        if (!board.has(key)) return UNKNOWN;
        if (!within(v, -MOST_BENT, MOST_BENT)) return BAD;
        int before = board.bends[key];
        board.bends[key] = v;
        return before;
    }

    public int about(int key, int what) {
        if (!board.has(key)) return UNKNOWN;
        switch (what) {
            case 0: return board.struck[key];
            case 1: return board.lengths[key];
            case 2: return board.bends[key];
            case 3: return board.toneOf(key);
            case 4: return goalOf(key);
            case 5: return errorOf(key);
            default: return BAD;
        }
    }

    public int pressed(int key, int p) {
        if (!board.has(key)) return UNKNOWN;
        if (!within(p, 0, MOST_PRESS)) return BAD;
        int tone = board.toneOf(key);
        return tone + tone * p / 1000;
    }

    public int sharers(int string) {
        if (!isString(string)) return UNKNOWN;
        return board.strikersOf(string);
    }

    public int order() {
        return asNumber(board.isInOrder());
    }

    // ---- scales

    public int step(int scale, int step, int above, int below) {
        if (!isScale(scale) || !isStep(step)) return UNKNOWN;
        if (!within(above, 1, MOST_SHARE) || !within(below, 1, MOST_SHARE)) return BAD;
        if (above > MOST_TIMES * below) return BAD;
        scales.put(scale, step, above, below);
        return 1;
    }

    public int share(int scale, int step, boolean upper) {
        if (!isScale(scale) || !isStep(step)) return UNKNOWN;
        return scales.partOf(scale, step, upper);
    }

    public int use(int scale) {
        if (!isScale(scale)) return UNKNOWN;
        int before = scaleInUse;
        scaleInUse = scale;
        return before;
    }

    public int pitch(int v) {
        if (!isPitch(v)) return BAD;
        int before = pitchNow;
        pitchNow = v;
        return before;
    }

    public int wrong() {
        return allErrors();
    }

    public int tune(int key) {
        if (!board.has(key)) return UNKNOWN;
        tuneOne(key);
        return errorOf(key);
    }

    public int tuneAll() {
        for (int key = 0; key < board.size; key++) tuneOne(key);
        return allErrors();
    }

    public int worst() {
        int worstKey = 0;
        int greatest = Math.abs(errorOf(0));
        for (int key = 1; key < board.size; key++) {
            int size = Math.abs(errorOf(key));
            if (size > greatest) {
                greatest = size;
                worstKey = key;
            }
        }
        return worstKey;
    }

    // ---- music

    public int note(int piece, int key, int begin, int length) {
        if (!isPiece(piece)) return UNKNOWN;
        if (!within(key, 0, MOST_KEYS - 1)) return BAD;
        if (!within(begin, 0, LAST_BEGIN) || !within(length, 1, MOST_TICKS)) return BAD;
        if (begin < music.lastBegin(piece)) return STATE;
        if (music.isFull(piece)) return FULL;
        return music.append(piece, key, begin, length);
    }

    public int wipe(int piece) {
        if (!isPiece(piece)) return UNKNOWN;
        int before = music.sizes[piece];
        music.sizes[piece] = 0;
        return before;
    }

    public int rest(int g) {
        if (!within(g, 0, MOST_REST)) return BAD;
        int before = restNow;
        restNow = g;
        return before;
    }

    public int clashes(int piece) {
        if (!isPiece(piece)) return UNKNOWN;
        return music.countClashes(piece);
    }

    public int clash(int piece, int i) {
        if (!isPiece(piece)) return UNKNOWN;
        return music.clashNumbered(piece, i);
    }

    public int chokes(int piece) {
        if (!isPiece(piece)) return UNKNOWN;
        return music.countChokes(piece, restNow);
    }

    public int trills(int piece, boolean bad) {
        if (!isPiece(piece)) return UNKNOWN;
        return music.countTrills(piece, bad);
    }

    public int heard(int piece, int string, int tick) {
        if (!isPiece(piece) || !isString(string)) return UNKNOWN;
        if (!within(tick, 0, LAST_TICK)) return BAD;
        return music.keyHeard(piece, string, tick);
    }

    public int lost(int piece, int key) {
        if (!isPiece(piece) || !board.has(key)) return UNKNOWN;
        return music.ticksLost(piece, key);
    }

    public int passes(int piece) {
        if (!isPiece(piece)) return UNKNOWN;
        return asNumber(music.allKeysThere(piece) && music.countClashes(piece) == 0);
    }

    public int book(int set) {
        if (!within(set, 0, (1 << PIECES) - 1)) return BAD;
        int before = bookNow;
        bookNow = set;
        return before;
    }

    // ---- sharings

    public int together(int from, int to) {
        if (!board.has(from) || !board.has(to)) return UNKNOWN;
        if (to < from) return BAD;
        sharing.gather(music, bookNow);
        return sharing.clashesOf(from, to);
    }

    public int fewest(int most) {
        if (!isMost(most)) return BAD;
        return findStrings(most, 0);
    }

    public int least(int most, int strings) {
        if (!isMost(most) || !within(strings, 1, STRINGS)) return BAD;
        int taken = findStrings(most, strings);
        return taken == NONE ? NONE : sharing.leastWith(taken);
    }

    public int group(int most, int strings, int key) {
        if (!board.has(key)) return UNKNOWN;
        if (!isMost(most) || !within(strings, 0, STRINGS)) return BAD;
        int taken = findStrings(most, strings);
        if (taken == NONE) return NONE;
        sharing.layOut(taken);
        return sharing.groupOf[key];
    }

    public int setUp(int most, int strings) {
        if (!isMost(most) || !within(strings, 0, STRINGS)) return BAD;
        int taken = findStrings(most, strings);
        if (taken == NONE) return NONE;
        sharing.layOut(taken);
        for (int key = 0; key < board.size; key++) board.struck[key] = sharing.groupOf[key];
        return taken;
    }

    // ---- old ones

    public int measure(int key, int tone) {
        if (!board.has(key)) return UNKNOWN;
        if (tone != NONE && !within(tone, LEAST_TONE, MOST_TONE)) return BAD;
        int before = oldOne.measured[key];
        oldOne.measured[key] = tone;
        return before;
    }

    public int misfit(int scale, int pitch) {
        if (!isScale(scale)) return UNKNOWN;
        if (!isPitch(pitch)) return BAD;
        return oldOne.misfitAt(scale, pitch, NO_KEY);
    }

    public int found(int scale, int what) {
        if (!isScale(scale)) return UNKNOWN;
        if (!within(what, 0, 1)) return BAD;
        if (oldOne.countMeasured() < 1) return STATE;
        oldOne.seek(scale, NO_KEY);
        return what == 0 ? oldOne.pitchFound : oldOne.misfitFound;
    }

    public int meant() {
        if (oldOne.countMeasured() < 1) return STATE;
        return oldOne.scaleMeant();
    }

    public int added(int what) {
        if (!within(what, 0, 1)) return BAD;
        if (oldOne.countMeasured() < 2) return STATE;
        int key = oldOne.keyAdded();
        return what == 0 ? key : oldOne.misfitFound;
    }

    public int bentLater(int by, int i) {
        if (!within(by, 0, MOST_TONE)) return BAD;
        if (oldOne.countMeasured() < 1) return STATE;
        return oldOne.keyBentLater(by, i);
    }

    public int count(int what) {
        switch (what) {
            case 0: return board.size;
            case 1: return board.countStruck();
            case 2: return music.countNotes();
            case 3: return Integer.bitCount(bookNow);
            case 4: return oldOne.countMeasured();
            case 5: return board.countBent();
            default: return BAD;
        }
    }

    // ---- what the calls stand on

    private int goalOf(int key) {
        return scales.goalAt(scaleInUse, pitchNow, key);
    }

    private int errorOf(int key) {
        return board.toneOf(key) - goalOf(key);
    }

    private int allErrors() {
        int all = 0;
        for (int key = 0; key < board.size; key++) all += Math.abs(errorOf(key));
        return all;
    }

    /** Tries 0, -1, 1, -2, 2, .. and keeps the first of like ones: the least size, then the lesser. */
    private void tuneOne(int key) {
        int goal = goalOf(key);
        int best = 0;
        int bestSize = Math.abs(board.toneBent(key, 0) - goal);
        for (int bent = 1; bent <= MOST_BENT; bent++) {
            int lower = Math.abs(board.toneBent(key, -bent) - goal);
            if (lower < bestSize) {
                best = -bent;
                bestSize = lower;
            }
            int upper = Math.abs(board.toneBent(key, bent) - goal);
            if (upper < bestSize) {
                best = bent;
                bestSize = upper;
            }
        }
        board.bends[key] = best;
    }

    /** How many strings the best sharing takes: of the fewest for 0 strings, else of the least; NONE: too few. */
    private int findStrings(int most, int strings) {
        sharing.gather(music, bookNow);
        sharing.solve(board.size, most);
        return strings == 0 ? sharing.fewestStrings() : sharing.bestStrings(strings);
    }

    private static boolean within(int v, int low, int high) {
        return low <= v && v <= high;
    }

    private static boolean isString(int string) {
        return within(string, 0, STRINGS - 1);
    }

    private static boolean isScale(int scale) {
        return within(scale, 0, SCALES - 1);
    }

    private static boolean isStep(int step) {
        return within(step, 0, STEPS - 1);
    }

    private static boolean isPitch(int pitch) {
        return within(pitch, LEAST_PITCH, MOST_PITCH);
    }

    private static boolean isPiece(int piece) {
        return within(piece, 0, PIECES - 1);
    }

    private static boolean isMost(int most) {
        return within(most, 1, MOST_PER_STRING);
    }

    private static int asNumber(boolean holds) {
        return holds ? 1 : 0;
    }

    /** The keys, those that are not there too, and the strings that they strike. */
    private static final class Board {
        int size = FIRST_KEYS;
        final int[] struck = new int[MOST_KEYS];
        final int[] lengths = new int[MOST_KEYS];
        final int[] bends = new int[MOST_KEYS];
        final int[] tensions = new int[STRINGS];

        Board() {
            for (int key = 0; key < MOST_KEYS; key++) {
                struck[key] = key;
                lengths[key] = FIRST_LENGTH;
            }
            for (int string = 0; string < STRINGS; string++) tensions[string] = FIRST_TENSION;
        }

        boolean has(int key) {
            return 0 <= key && key < size;
        }

        int soundingLength(int key) {
            return lengths[key] + bends[key];
        }

        int toneOf(int key) {
            return toneBent(key, bends[key]);
        }

        int toneBent(int key, int bent) {
            int sounding = lengths[key] + bent;
            return sounding < 1 ? 0 : tensions[struck[key]] * 10000 / sounding;
        }

        boolean strikes(int key, int string) {
            return has(key) && struck[key] == string;
        }

        boolean doShare(int a, int b) {
            return a != b && has(a) && has(b) && struck[a] == struck[b];
        }

        int strikersOf(int string) {
            int strikers = 0;
            for (int key = 0; key < size; key++) {
                if (struck[key] == string) strikers++;
            }
            return strikers;
        }

        boolean isInOrder() {
            for (int upper = 1; upper < size; upper++) {
                for (int lower = 0; lower < upper; lower++) {
                    if (doShare(lower, upper) && soundingLength(lower) <= soundingLength(upper)) return false;
                }
            }
            return true;
        }

        /** Whether key a stops their string nearer to its end than key b; of like ones the least key does. */
        boolean stopsNearer(int a, int b) {
            int lengthA = soundingLength(a);
            int lengthB = soundingLength(b);
            return lengthA < lengthB || (lengthA == lengthB && a < b);
        }

        int countStruck() {
            int strings = 0;
            for (int string = 0; string < STRINGS; string++) {
                if (strikersOf(string) > 0) strings++;
            }
            return strings;
        }

        int countBent() {
            int bent = 0;
            for (int key = 0; key < size; key++) {
                if (bends[key] != 0) bent++;
            }
            return bent;
        }
    }

    /** The shares of all scales, a scale's steps one behind the other. */
    private static final class Scales {
        final int[] aboves = new int[SCALES * STEPS];
        final int[] belows = new int[SCALES * STEPS];

        Scales() {
            for (int at = 0; at < SCALES * STEPS; at++) {
                aboves[at] = 1;
                belows[at] = 1;
            }
        }

        void put(int scale, int step, int above, int below) {
            aboves[scale * STEPS + step] = above;
            belows[scale * STEPS + step] = below;
        }

        int partOf(int scale, int step, boolean upper) {
            int at = scale * STEPS + step;
            return upper ? aboves[at] : belows[at];
        }

        int goalAt(int scale, int pitch, int key) {
            int at = scale * STEPS + key % STEPS;
            int octaveUp = pitch << (key / STEPS);
            int below = belows[at];
            return below < 1 ? 0 : octaveUp * aboves[at] / below;
        }
    }

    /** The notes of all pieces: note i of a piece stands at piece times 40 and i. */
    private static final class Music {
        final Board board;
        final int[] keyAt = new int[PIECES * MOST_NOTES];
        final int[] beginAt = new int[PIECES * MOST_NOTES];
        final int[] lengthAt = new int[PIECES * MOST_NOTES];
        final int[] sizes = new int[PIECES];

        Music(Board board) {
            this.board = board;
        }

        int startOf(int piece) {
            return piece * MOST_NOTES;
        }

        int endOf(int piece) {
            return piece * MOST_NOTES + sizes[piece];
        }

        boolean isFull(int piece) {
            return sizes[piece] >= MOST_NOTES;
        }

        int lastBegin(int piece) {
            return sizes[piece] == 0 ? 0 : beginAt[endOf(piece) - 1];
        }

        int append(int piece, int key, int begin, int length) {
            int at = endOf(piece);
            keyAt[at] = key;
            beginAt[at] = begin;
            lengthAt[at] = length;
            sizes[piece]++;
            return sizes[piece] - 1;
        }

        int countNotes() {
            int notes = 0;
            for (int piece = 0; piece < PIECES; piece++) notes += sizes[piece];
            return notes;
        }

        int tickBehind(int at) {
            return beginAt[at] + lengthAt[at];
        }

        boolean soundsAt(int at, int tick) {
            return beginAt[at] <= tick && tick < tickBehind(at);
        }

        boolean soundAtOnce(int a, int b) {
            return beginAt[a] < tickBehind(b) && beginAt[b] < tickBehind(a);
        }

        boolean doClash(int a, int b) {
            return board.doShare(keyAt[a], keyAt[b]) && soundAtOnce(a, b);
        }

        int countClashes(int piece) {
            int pairs = 0;
            for (int later = startOf(piece); later < endOf(piece); later++) {
                for (int ahead = startOf(piece); ahead < later; ahead++) {
                    if (doClash(ahead, later)) pairs++;
                }
            }
            return pairs;
        }

        int clashNumbered(int piece, int wanted) {
            int start = startOf(piece);
            int pairs = 0;
            for (int later = start; later < endOf(piece); later++) {
                for (int ahead = start; ahead < later; ahead++) {
                    if (!doClash(ahead, later)) continue;
                    if (pairs == wanted) return MOST_NOTES * (ahead - start) + later - start;
                    pairs++;
                }
            }
            return NONE;
        }

        /** A note that chokes begins behind the choked one's begin, so it is always the later of the two. */
        int countChokes(int piece, int rest) {
            int pairs = 0;
            for (int later = startOf(piece); later < endOf(piece); later++) {
                for (int ahead = startOf(piece); ahead < later; ahead++) {
                    int wait = beginAt[later] - tickBehind(ahead);
                    if (0 <= wait && wait < rest && board.doShare(keyAt[ahead], keyAt[later])) pairs++;
                }
            }
            return pairs;
        }

        int countTrills(int piece, boolean onlyBad) {
            int trills = 0;
            for (int first = startOf(piece); first < endOf(piece); first++) {
                int last = lastOfTrill(first, endOf(piece));
                if (last - first + 1 < SHORTEST_TRILL) continue;
                if (!onlyBad || board.doShare(keyAt[first], keyAt[first + 1])) trills++;
                // the next one may begin with this one's last note
                first = last - 1;
            }
            return trills;
        }

        int lastOfTrill(int first, int end) {
            int last = first;
            for (int next = first + 1; next < end; next++) {
                if (!goesOn(first, next)) break;
                last = next;
            }
            return last;
        }

        boolean goesOn(int first, int next) {
            if (beginAt[next] > tickBehind(next - 1)) return false;
            if (next == first + 1) return keyAt[next] != keyAt[first];
            return keyAt[next] == keyAt[next - 2];
        }

        int keyHeard(int piece, int string, int tick) {
            int nearest = NO_KEY;
            for (int at = startOf(piece); at < endOf(piece); at++) {
                int key = keyAt[at];
                if (!board.strikes(key, string) || !soundsAt(at, tick)) continue;
                if (nearest == NO_KEY || board.stopsNearer(key, nearest)) nearest = key;
            }
            return nearest == NO_KEY ? NONE : nearest;
        }

        /** Notes come by begin, so all ticks below 'fresh' that a later note has were counted by those ahead. */
        int ticksLost(int piece, int key) {
            int string = board.struck[key];
            int ticks = 0;
            int fresh = 0;
            for (int at = startOf(piece); at < endOf(piece); at++) {
                if (keyAt[at] != key) continue;
                for (int tick = Math.max(fresh, beginAt[at]); tick < tickBehind(at); tick++) {
                    if (keyHeard(piece, string, tick) != key) ticks++;
                }
                fresh = Math.max(fresh, tickBehind(at));
            }
            return ticks;
        }

        boolean allKeysThere(int piece) {
            for (int at = startOf(piece); at < endOf(piece); at++) {
                if (!board.has(keyAt[at])) return false;
            }
            return true;
        }
    }

    /** Finds best sharings; its rows are filled anew for each call that asks. */
    private static final class Sharing {
        /** Above all clashes that a book can have (4 times 780), and no sum of a few of them overflows. */
        private static final int IMPOSSIBLE = 1000000;
        private static final int WIDTH = MOST_KEYS + 1;

        final int[] pairs = new int[MOST_KEYS * MOST_KEYS];
        /** By strings times 25 and key: the least clashes of that key and all above it with just so many strings. */
        final int[] leasts = new int[WIDTH * WIDTH];
        final int[] groupOf = new int[MOST_KEYS];
        int size = 0;
        int most = 0;

        void gather(Music music, int book) {
            for (int at = 0; at < MOST_KEYS * MOST_KEYS; at++) pairs[at] = 0;
            for (int piece = 0; piece < PIECES; piece++) {
                if ((book >> piece & 1) == 1) gatherPiece(music, piece);
            }
        }

        void gatherPiece(Music music, int piece) {
            for (int later = music.startOf(piece); later < music.endOf(piece); later++) {
                for (int ahead = music.startOf(piece); ahead < later; ahead++) {
                    if (music.soundAtOnce(ahead, later)) addPair(music.keyAt[ahead], music.keyAt[later]);
                }
            }
        }

        void addPair(int a, int b) {
            if (a != b) pairs[Math.min(a, b) * MOST_KEYS + Math.max(a, b)]++;
        }

        int clashesOf(int from, int to) {
            int clashes = 0;
            for (int upper = from + 1; upper <= to; upper++) clashes += clashesBelow(from, upper);
            return clashes;
        }

        /** What a key adds to a group that begins at 'from' and ends right below it. */
        int clashesBelow(int from, int upper) {
            int clashes = 0;
            for (int lower = from; lower < upper; lower++) clashes += pairs[lower * MOST_KEYS + upper];
            return clashes;
        }

        void solve(int keys, int mostOnOne) {
            size = keys;
            most = mostOnOne;
            for (int key = 0; key < size; key++) leasts[key] = IMPOSSIBLE;
            leasts[size] = 0;
            for (int strings = 1; strings <= size; strings++) {
                leasts[strings * WIDTH + size] = IMPOSSIBLE;
                for (int key = 0; key < size; key++) leasts[strings * WIDTH + key] = leastFrom(strings, key);
            }
        }

        int leastFrom(int strings, int key) {
            int best = IMPOSSIBLE;
            int clashes = 0;
            for (int next = key + 1; next <= size && next <= key + most; next++) {
                clashes += clashesBelow(key, next - 1);
                best = Math.min(best, clashes + leasts[(strings - 1) * WIDTH + next]);
            }
            return best;
        }

        int leastWith(int strings) {
            return leasts[strings * WIDTH];
        }

        int fewestStrings() {
            for (int strings = 1; strings < size; strings++) {
                if (leastWith(strings) == 0) return strings;
            }
            // a string for each key never clashes
            return size;
        }

        int bestStrings(int limit) {
            int best = NONE;
            int fewestClashes = IMPOSSIBLE;
            for (int strings = 1; strings <= limit && strings <= size; strings++) {
                if (leastWith(strings) < fewestClashes) {
                    fewestClashes = leastWith(strings);
                    best = strings;
                }
            }
            return best;
        }

        void layOut(int strings) {
            int key = 0;
            for (int number = 0; number < strings; number++) {
                int next = greatestGroupEnd(strings - number, key);
                for (int member = key; member < next; member++) groupOf[member] = number;
                key = next;
            }
        }

        /** The key right behind the greatest first group that keeps the least clashes within reach. */
        int greatestGroupEnd(int strings, int key) {
            int end = key;
            int clashes = 0;
            for (int next = key + 1; next <= size && next <= key + most; next++) {
                clashes += clashesBelow(key, next - 1);
                int all = clashes + leasts[(strings - 1) * WIDTH + next];
                if (all == leasts[strings * WIDTH + key]) end = next;
            }
            return end;
        }
    }

    /** What is measured of an old one, and which scale and pitch fit it. */
    private static final class OldOne {
        private static final int LAST_PLACE = (MOST_PITCH - LEAST_PITCH) / PITCH_STRIDE;
        private static final int HALVINGS = 14;
        /** Twice the most that cutting the goals of all keys can change a misfit. */
        private static final int SLACK = 2 * MOST_KEYS;

        final Board board;
        final Scales scales;
        final int[] measured = new int[MOST_KEYS];
        int pitchFound = 0;
        int misfitFound = 0;

        OldOne(Board board, Scales scales) {
            this.board = board;
            this.scales = scales;
            for (int key = 0; key < MOST_KEYS; key++) measured[key] = NONE;
        }

        int countMeasured() {
            int keys = 0;
            for (int key = 0; key < board.size; key++) {
                if (measured[key] != NONE) keys++;
            }
            return keys;
        }

        int misfitAt(int scale, int pitch, int without) {
            int all = 0;
            for (int key = 0; key < board.size; key++) {
                if (key == without || measured[key] == NONE) continue;
                all += Math.abs(scales.goalAt(scale, pitch, key) - measured[key]);
            }
            return all;
        }

        /**
         * Finds the least misfit without trying every pitch. Were goals not cut, the misfit would be convex
         * by pitch; cutting changes it by less than 24. So where it is more than twice that above the best
         * met so far, nothing farther out is as good. This holds wherever the walk begins.
         */
        void seek(int scale, int without) {
            int start = likelyPitch(scale, without);
            int bestPitch = start;
            int best = misfitAt(scale, start, without);
            for (int pitch = start + PITCH_STRIDE; pitch <= MOST_PITCH; pitch += PITCH_STRIDE) {
                int here = misfitAt(scale, pitch, without);
                if (here > best + SLACK) break;
                if (here < best) {
                    best = here;
                    bestPitch = pitch;
                }
            }
            for (int pitch = start - PITCH_STRIDE; pitch >= LEAST_PITCH; pitch -= PITCH_STRIDE) {
                int here = misfitAt(scale, pitch, without);
                if (here > best + SLACK) break;
                if (here <= best) {
                    best = here;
                    bestPitch = pitch;
                }
            }
            pitchFound = bestPitch;
            misfitFound = best;
        }

        /** A pitch at the least misfit or near to it, unless cut goals hide the slope: then just any that counts. */
        int likelyPitch(int scale, int without) {
            int low = 0;
            int high = LAST_PLACE;
            for (int round = 0; round < HALVINGS && low < high; round++) {
                int middle = (low + high) / 2;
                int pitch = LEAST_PITCH + middle * PITCH_STRIDE;
                int here = misfitAt(scale, pitch, without);
                if (here <= misfitAt(scale, pitch + PITCH_STRIDE, without)) {
                    high = middle;
                } else {
                    low = middle + 1;
                }
            }
            return LEAST_PITCH + low * PITCH_STRIDE;
        }

        /** The meant scale; the pitch found is then that of this scale. */
        int scaleMeant() {
            int meantScale = 0;
            int bestPitch = 0;
            int best = 0;
            for (int scale = 0; scale < SCALES; scale++) {
                seek(scale, NO_KEY);
                if (scale == 0 || misfitFound < best) {
                    meantScale = scale;
                    bestPitch = pitchFound;
                    best = misfitFound;
                }
            }
            pitchFound = bestPitch;
            return meantScale;
        }

        /** The added key; the misfit found is then that without it. */
        int keyAdded() {
            int scale = scaleMeant();
            int addedKey = NO_KEY;
            int best = 0;
            for (int key = 0; key < board.size; key++) {
                if (measured[key] == NONE) continue;
                seek(scale, key);
                if (addedKey == NO_KEY || misfitFound < best) {
                    addedKey = key;
                    best = misfitFound;
                }
            }
            misfitFound = best;
            return addedKey;
        }

        int keyBentLater(int by, int wanted) {
            int scale = scaleMeant();
            int met = 0;
            for (int key = 0; key < board.size; key++) {
                if (measured[key] == NONE) continue;
                if (Math.abs(scales.goalAt(scale, pitchFound, key) - measured[key]) <= by) continue;
                if (met == wanted) return key;
                met++;
            }
            return NONE;
        }
    }
}
