import java.util.ArrayList;
import java.util.List;
import java.util.TreeSet;

/**
 * The document once more, as plainly as it can be said: every pitch is tried, every sharing, every tick.
 * It is here to be compared with, so it uses nothing of TwoKeys but the constants.
 */
final class PlainModel {
    record Note(int key, int begin, int length) {
        boolean soundsAt(int tick) {
            return tick >= begin && tick <= begin + length - 1;
        }

        boolean meets(Note other) {
            for (int tick = begin; tick <= begin + length - 1; tick++) {
                if (other.soundsAt(tick)) return true;
            }
            return false;
        }
    }

    record Best(int clashes, List<Integer> sizes) {
    }

    int n = 12;
    final int[] string = new int[24];
    final int[] length = new int[24];
    final int[] bent = new int[24];
    final int[] tension = new int[24];
    final Integer[] measured = new Integer[24];
    final int[][][] shares = new int[5][12][2];
    final List<List<Note>> pieces = new ArrayList<>();
    int scale = 0;
    int pitch = 8000;
    int rest = 1;
    int book = 0;

    PlainModel() {
        for (int i = 0; i < 24; i++) {
            string[i] = i;
            length[i] = 5000;
            tension[i] = 4000;
        }
        for (int[][] steps : shares) {
            for (int[] step : steps) step[0] = step[1] = 1;
        }
        for (int i = 0; i < 4; i++) pieces.add(new ArrayList<>());
    }

    private static boolean out(int v, int low, int high) {
        return v < low || v > high;
    }

    private boolean noKey(int key) {
        return out(key, 0, n - 1);
    }

    private boolean share(int a, int b) {
        return a < n && b < n && string[a] == string[b];
    }

    private int tone(int key, int bend) {
        return tension[string[key]] * 10000 / (length[key] + bend);
    }

    private int goal(int s, int p, int key) {
        long top = (long) p * (key < 12 ? 1 : 2) * shares[s][key % 12][0];
        return (int) (top / shares[s][key % 12][1]);
    }

    private int error(int key) {
        return tone(key, bent[key]) - goal(scale, pitch, key);
    }

    int keys(int v) {
        if (out(v, 1, 24)) return TwoKeys.BAD;
        int was = n;
        n = v;
        return was;
    }

    int strike(int key, int s, int l) {
        if (noKey(key)) return TwoKeys.UNKNOWN;
        if (out(s, 0, 23)) return TwoKeys.UNKNOWN;
        if (out(l, 500, 9999)) return TwoKeys.BAD;
        int was = string[key];
        string[key] = s;
        length[key] = l;
        bent[key] = 0;
        return was;
    }

    int tension(int s, int v) {
        if (out(s, 0, 23)) return TwoKeys.UNKNOWN;
        if (out(v, 100, 20000)) return TwoKeys.BAD;
        int was = tension[s];
        tension[s] = v;
        return was;
    }

    int bend(int key, int v) {
        if (noKey(key)) return TwoKeys.UNKNOWN;
        if (out(v, -40, 40)) return TwoKeys.BAD;
        int was = bent[key];
        bent[key] = v;
        return was;
    }

    int about(int key, int what) {
        if (noKey(key)) return TwoKeys.UNKNOWN;
        if (out(what, 0, 5)) return TwoKeys.BAD;
        int[] all = {string[key], length[key], bent[key], tone(key, bent[key]), goal(scale, pitch, key), error(key)};
        return all[what];
    }

    int pressed(int key, int p) {
        if (noKey(key)) return TwoKeys.UNKNOWN;
        if (out(p, 0, 20)) return TwoKeys.BAD;
        return tone(key, bent[key]) + tone(key, bent[key]) * p / 1000;
    }

    int sharers(int s) {
        if (out(s, 0, 23)) return TwoKeys.UNKNOWN;
        int all = 0;
        for (int key = 0; key < n; key++) all += string[key] == s ? 1 : 0;
        return all;
    }

    int order() {
        for (int a = 0; a < n; a++) {
            for (int b = a + 1; b < n; b++) {
                if (share(a, b) && !(length[a] + bent[a] > length[b] + bent[b])) return 0;
            }
        }
        return 1;
    }

    int step(int s, int step, int above, int below) {
        if (out(s, 0, 4) || out(step, 0, 11)) return TwoKeys.UNKNOWN;
        if (out(above, 1, 999) || out(below, 1, 999) || above > 4 * below) return TwoKeys.BAD;
        shares[s][step][0] = above;
        shares[s][step][1] = below;
        return 1;
    }

    int share(int s, int step, boolean upper) {
        if (out(s, 0, 4) || out(step, 0, 11)) return TwoKeys.UNKNOWN;
        return shares[s][step][upper ? 0 : 1];
    }

    int use(int s) {
        if (out(s, 0, 4)) return TwoKeys.UNKNOWN;
        int was = scale;
        scale = s;
        return was;
    }

    int pitch(int v) {
        if (out(v, 1000, 200000)) return TwoKeys.BAD;
        int was = pitch;
        pitch = v;
        return was;
    }

    int wrong() {
        int all = 0;
        for (int key = 0; key < n; key++) all += Math.abs(error(key));
        return all;
    }

    int tune(int key) {
        if (noKey(key)) return TwoKeys.UNKNOWN;
        int goal = goal(scale, pitch, key);
        int best = -40;
        for (int b = -39; b <= 40; b++) {
            int by = Integer.compare(Math.abs(tone(key, b) - goal), Math.abs(tone(key, best) - goal));
            if (by == 0) by = Integer.compare(Math.abs(b), Math.abs(best));
            if (by < 0) best = b;
        }
        bent[key] = best;
        return error(key);
    }

    int tuneAll() {
        for (int key = 0; key < n; key++) tune(key);
        return wrong();
    }

    int worst() {
        int best = n - 1;
        for (int key = n - 1; key >= 0; key--) {
            if (Math.abs(error(key)) >= Math.abs(error(best))) best = key;
        }
        return best;
    }

    int note(int piece, int key, int begin, int ticks) {
        if (out(piece, 0, 3)) return TwoKeys.UNKNOWN;
        if (out(key, 0, 23) || out(begin, 0, 999) || out(ticks, 1, 99)) return TwoKeys.BAD;
        List<Note> notes = pieces.get(piece);
        if (!notes.isEmpty() && notes.get(notes.size() - 1).begin() > begin) return TwoKeys.STATE;
        if (notes.size() == 40) return TwoKeys.FULL;
        notes.add(new Note(key, begin, ticks));
        return notes.size() - 1;
    }

    int wipe(int piece) {
        if (out(piece, 0, 3)) return TwoKeys.UNKNOWN;
        int was = pieces.get(piece).size();
        pieces.get(piece).clear();
        return was;
    }

    int rest(int g) {
        if (out(g, 0, 20)) return TwoKeys.BAD;
        int was = rest;
        rest = g;
        return was;
    }

    private List<Integer> allClashes(int piece) {
        List<Note> notes = pieces.get(piece);
        List<Integer> all = new ArrayList<>();
        for (int b = 0; b < notes.size(); b++) {
            for (int a = 0; a < b; a++) {
                Note first = notes.get(a);
                Note second = notes.get(b);
                if (first.key() == second.key() || !share(first.key(), second.key())) continue;
                if (first.meets(second)) all.add(40 * a + b);
            }
        }
        return all;
    }

    int clashes(int piece) {
        return out(piece, 0, 3) ? TwoKeys.UNKNOWN : allClashes(piece).size();
    }

    int clash(int piece, int i) {
        if (out(piece, 0, 3)) return TwoKeys.UNKNOWN;
        List<Integer> all = allClashes(piece);
        return out(i, 0, all.size() - 1) ? TwoKeys.NONE : all.get(i);
    }

    int chokes(int piece) {
        if (out(piece, 0, 3)) return TwoKeys.UNKNOWN;
        int all = 0;
        for (Note a : pieces.get(piece)) {
            for (Note b : pieces.get(piece)) {
                if (a.key() == b.key() || !share(a.key(), b.key())) continue;
                for (int g = 1; g <= rest; g++) {
                    if (b.begin() == a.begin() + a.length() - 1 + g) all++;
                }
            }
        }
        return all;
    }

    private boolean isTrill(List<Note> notes, int from, int to) {
        if (to >= notes.size() || notes.get(from).key() == notes.get(from + 1).key()) return false;
        for (int i = from; i <= to; i++) {
            if (notes.get(i).key() != notes.get(from + (i - from) % 2).key()) return false;
            if (i > from && notes.get(i).begin() > notes.get(i - 1).begin() + notes.get(i - 1).length()) return false;
        }
        return true;
    }

    int trills(int piece, boolean bad) {
        if (out(piece, 0, 3)) return TwoKeys.UNKNOWN;
        List<Note> notes = pieces.get(piece);
        int all = 0;
        int at = 0;
        while (at < notes.size()) {
            if (!isTrill(notes, at, at + 3)) {
                at++;
                continue;
            }
            int to = at + 3;
            while (isTrill(notes, at, to + 1)) to++;
            if (!bad || share(notes.get(at).key(), notes.get(at + 1).key())) all++;
            at = to;
        }
        return all;
    }

    private int heardAt(int piece, int s, int tick) {
        TreeSet<Integer> sounding = new TreeSet<>();
        for (Note note : pieces.get(piece)) {
            int key = note.key();
            if (key < n && string[key] == s && note.soundsAt(tick)) sounding.add((length[key] + bent[key]) * 100 + key);
        }
        return sounding.isEmpty() ? TwoKeys.NONE : sounding.first() % 100;
    }

    int heard(int piece, int s, int tick) {
        if (out(piece, 0, 3) || out(s, 0, 23)) return TwoKeys.UNKNOWN;
        if (out(tick, 0, 1100)) return TwoKeys.BAD;
        return heardAt(piece, s, tick);
    }

    int lost(int piece, int key) {
        if (out(piece, 0, 3) || noKey(key)) return TwoKeys.UNKNOWN;
        int all = 0;
        for (int tick = 0; tick <= 1100; tick++) {
            boolean is = false;
            for (Note note : pieces.get(piece)) is |= note.key() == key && note.soundsAt(tick);
            if (is && heardAt(piece, string[key], tick) != key) all++;
        }
        return all;
    }

    int passes(int piece) {
        if (out(piece, 0, 3)) return TwoKeys.UNKNOWN;
        for (Note note : pieces.get(piece)) {
            if (note.key() >= n) return 0;
        }
        return allClashes(piece).isEmpty() ? 1 : 0;
    }

    int book(int set) {
        if (out(set, 0, 15)) return TwoKeys.BAD;
        int was = book;
        book = set;
        return was;
    }

    private int clashesOf(int from, int to) {
        int all = 0;
        for (int piece = 0; piece < 4; piece++) {
            if ((book & 1 << piece) == 0) continue;
            for (Note a : pieces.get(piece)) {
                for (Note b : pieces.get(piece)) {
                    boolean in = !out(a.key(), from, to) && !out(b.key(), from, to);
                    if (in && a.key() < b.key() && a.meets(b)) all++;
                }
            }
        }
        return all;
    }

    int together(int from, int to) {
        if (noKey(from) || noKey(to)) return TwoKeys.UNKNOWN;
        return to < from ? TwoKeys.BAD : clashesOf(from, to);
    }

    /** Goes through all sharings; of 0 strings: without any clash. */
    private Best best(int most, int strings) {
        int[][] table = new int[n][n];
        for (int from = 0; from < n; from++) {
            for (int to = from; to < n && to < from + most; to++) table[from][to] = clashesOf(from, to);
        }
        return best(table, most, strings, 0, 0, new ArrayList<>(), null);
    }

    private Best best(int[][] table, int most, int strings, int key, int clashes, List<Integer> sizes, Best before) {
        if (key == n) {
            if (strings == 0 ? clashes > 0 : sizes.size() > strings) return before;
            return before == null || better(clashes, sizes, before) ? new Best(clashes, List.copyOf(sizes)) : before;
        }
        Best now = before;
        for (int size = 1; size <= most && key + size <= n; size++) {
            sizes.add(size);
            now = best(table, most, strings, key + size, clashes + table[key][key + size - 1], sizes, now);
            sizes.remove(sizes.size() - 1);
        }
        return now;
    }

    private static boolean better(int clashes, List<Integer> sizes, Best than) {
        if (clashes != than.clashes()) return clashes < than.clashes();
        if (sizes.size() != than.sizes().size()) return sizes.size() < than.sizes().size();
        for (int i = 0; i < sizes.size(); i++) {
            if (!sizes.get(i).equals(than.sizes().get(i))) return sizes.get(i) > than.sizes().get(i);
        }
        return false;
    }

    int fewest(int most) {
        return out(most, 1, 6) ? TwoKeys.BAD : best(most, 0).sizes().size();
    }

    int least(int most, int strings) {
        if (out(most, 1, 6) || out(strings, 1, 24)) return TwoKeys.BAD;
        Best best = best(most, strings);
        return best == null ? TwoKeys.NONE : best.clashes();
    }

    private static int groupOf(Best best, int key) {
        int behind = 0;
        for (int i = 0; i < best.sizes().size(); i++) {
            behind += best.sizes().get(i);
            if (key < behind) return i;
        }
        throw new IllegalStateException("a key without a group");
    }

    int group(int most, int strings, int key) {
        if (noKey(key)) return TwoKeys.UNKNOWN;
        if (out(most, 1, 6) || out(strings, 0, 24)) return TwoKeys.BAD;
        Best best = best(most, strings);
        return best == null ? TwoKeys.NONE : groupOf(best, key);
    }

    int setUp(int most, int strings) {
        if (out(most, 1, 6) || out(strings, 0, 24)) return TwoKeys.BAD;
        Best best = best(most, strings);
        if (best == null) return TwoKeys.NONE;
        for (int key = 0; key < n; key++) string[key] = groupOf(best, key);
        return best.sizes().size();
    }

    int measure(int key, int tone) {
        if (noKey(key)) return TwoKeys.UNKNOWN;
        if (tone != TwoKeys.NONE && out(tone, 100, 400000)) return TwoKeys.BAD;
        Integer was = measured[key];
        measured[key] = tone == TwoKeys.NONE ? null : Integer.valueOf(tone);
        return was == null ? TwoKeys.NONE : was;
    }

    private int misfit(int s, int p, int without) {
        int all = 0;
        for (int key = 0; key < n; key++) {
            if (measured[key] != null && key != without) all += Math.abs(goal(s, p, key) - measured[key]);
        }
        return all;
    }

    int misfit(int s, int p) {
        if (out(s, 0, 4)) return TwoKeys.UNKNOWN;
        return out(p, 1000, 200000) ? TwoKeys.BAD : misfit(s, p, -1);
    }

    /** Pitch and misfit. */
    private int[] find(int s, int without) {
        int[] best = null;
        for (int p = 1000; p <= 200000; p += 20) {
            int here = misfit(s, p, without);
            if (best == null || here < best[1]) best = new int[] {p, here};
        }
        return best;
    }

    private int allMeasured() {
        int all = 0;
        for (int key = 0; key < n; key++) all += measured[key] == null ? 0 : 1;
        return all;
    }

    int found(int s, int what) {
        if (out(s, 0, 4)) return TwoKeys.UNKNOWN;
        if (out(what, 0, 1)) return TwoKeys.BAD;
        return allMeasured() == 0 ? TwoKeys.STATE : find(s, -1)[what];
    }

    int meant() {
        if (allMeasured() == 0) return TwoKeys.STATE;
        int best = 0;
        int least = Integer.MAX_VALUE;
        for (int s = 0; s < 5; s++) {
            int here = find(s, -1)[1];
            if (here < least) {
                least = here;
                best = s;
            }
        }
        return best;
    }

    int added(int what) {
        if (out(what, 0, 1)) return TwoKeys.BAD;
        if (allMeasured() < 2) return TwoKeys.STATE;
        int s = meant();
        int[] best = null;
        for (int key = 0; key < n; key++) {
            if (measured[key] == null) continue;
            int here = find(s, key)[1];
            if (best == null || here < best[1]) best = new int[] {key, here};
        }
        return best[what];
    }

    int bentLater(int by, int i) {
        if (out(by, 0, 400000)) return TwoKeys.BAD;
        if (allMeasured() == 0) return TwoKeys.STATE;
        int s = meant();
        int p = find(s, -1)[0];
        List<Integer> all = new ArrayList<>();
        for (int key = 0; key < n; key++) {
            if (measured[key] != null && Math.abs(measured[key] - goal(s, p, key)) > by) all.add(key);
        }
        return out(i, 0, all.size() - 1) ? TwoKeys.NONE : all.get(i);
    }

    int count(int what) {
        if (out(what, 0, 5)) return TwoKeys.BAD;
        TreeSet<Integer> struck = new TreeSet<>();
        int bends = 0;
        for (int key = 0; key < n; key++) {
            struck.add(string[key]);
            if (bent[key] != 0) bends++;
        }
        int notes = 0;
        for (List<Note> piece : pieces) notes += piece.size();
        int[] all = {n, struck.size(), notes, Integer.bitCount(book), allMeasured(), bends};
        return all[what];
    }
}
