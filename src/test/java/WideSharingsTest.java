import java.util.ArrayList;
import java.util.Collections;
import java.util.List;
import java.util.Random;

/**
 * Promises 29 to 33 for 13 to 24 keys, too many for the plain model to try all sharings of them. Here the best sharing
 * of the upper keys is kept for each number of strings, as the row of its groups' sizes.
 */
public final class WideSharingsTest {
    private static final int ROUNDS = 160;

    record Sharing(int clashes, List<Integer> sizes) {
        Sharing behind(int size, int more) {
            List<Integer> all = new ArrayList<>(List.of(size));
            all.addAll(sizes);
            return new Sharing(clashes + more, all);
        }

        /** Fewer clashes; of like ones the fewest strings; of like ones the greater groups first. */
        boolean isBetterThan(Sharing other) {
            if (other == null) return true;
            if (clashes != other.clashes) return clashes < other.clashes;
            if (sizes.size() != other.sizes.size()) return sizes.size() < other.sizes.size();
            for (int i = 0; i < sizes.size(); i++) {
                if (!sizes.get(i).equals(other.sizes.get(i))) return sizes.get(i) > other.sizes.get(i);
            }
            return false;
        }

        int groupOf(int key) {
            int group = 0;
            for (int behind = sizes.get(0); behind <= key; behind += sizes.get(group)) group++;
            return group;
        }
    }

    record Note(int key, int begin, int length) {
        boolean meets(Note other) {
            return begin < other.begin + other.length && other.begin < begin + length;
        }
    }

    private final Random chance;
    private final int n;
    private final TwoKeys real = new TwoKeys();
    private final List<List<Note>> book = new ArrayList<>();
    private final String name;

    private WideSharingsTest(int round) {
        chance = new Random(5000 + round);
        n = 13 + round % 12;
        name = "round " + round + ", " + n + " keys";
    }

    public static void main(String[] args) {
        for (int round = 0; round < ROUNDS; round++) new WideSharingsTest(round).go();
        Due.end();
    }

    private void go() {
        real.keys(n);
        int set = 1 + chance.nextInt(15);
        real.book(set);
        int span = 1 + chance.nextInt(12);
        for (int piece = 0; piece < 4; piece++) {
            List<Note> notes = write(piece, chance.nextInt(41), span);
            if ((set >> piece & 1) == 1) book.add(notes);
        }
        int from = chance.nextInt(n);
        int to = from + chance.nextInt(n - from);
        Due.is(name + " together", real.together(from, to), clashesOf(from, to));
        for (int most = 1; most <= 6; most++) compare(most);
    }

    /** Silent keys have notes too; the shorter the notes, the fewer clashes. */
    private List<Note> write(int piece, int size, int span) {
        List<Note> notes = new ArrayList<>();
        int begin = 0;
        for (int i = 0; i < size; i++) {
            begin += chance.nextInt(4);
            Note note = new Note(chance.nextInt(24), begin, 1 + chance.nextInt(span));
            Due.is(name + " note", real.note(piece, note.key, note.begin, note.length), i);
            notes.add(note);
        }
        return notes;
    }

    private int clashesOf(int from, int to) {
        int clashes = 0;
        for (List<Note> notes : book) {
            for (Note a : notes) {
                for (Note b : notes) {
                    if (from <= a.key && a.key < b.key && b.key <= to && a.meets(b)) clashes++;
                }
            }
        }
        return clashes;
    }

    /** The best sharing with just so many strings, or null: by number of strings, 0 .. 24. */
    private List<Sharing> bests(int most) {
        List<List<Sharing>> from = new ArrayList<>();
        for (int key = 0; key <= n; key++) from.add(new ArrayList<>(Collections.nCopies(25, null)));
        from.get(n).set(0, new Sharing(0, List.of()));
        for (int key = n - 1; key >= 0; key--) {
            for (int size = 1; size <= most && key + size <= n; size++) {
                int clashes = clashesOf(key, key + size - 1);
                for (int strings = 0; strings < 24; strings++) {
                    Sharing rest = from.get(key + size).get(strings);
                    if (rest == null) continue;
                    Sharing here = rest.behind(size, clashes);
                    if (here.isBetterThan(from.get(key).get(strings + 1))) from.get(key).set(strings + 1, here);
                }
            }
        }
        return from.get(0);
    }

    /** Of all with so many strings at most. */
    private static Sharing leastOf(List<Sharing> bests, int strings) {
        Sharing least = null;
        for (Sharing one : bests.subList(0, strings + 1)) {
            if (one != null && one.isBetterThan(least)) least = one;
        }
        return least;
    }

    private void compare(int most) {
        List<Sharing> bests = bests(most);
        for (int strings = 1; strings <= 24; strings++) {
            Sharing least = leastOf(bests, strings);
            int due = least == null ? TwoKeys.NONE : least.clashes;
            Due.is(name + " least by " + most + " of " + strings, real.least(most, strings), due);
        }
        int enough = Math.min(24, (n + most - 1) / most + chance.nextInt(3));
        compareGroups(most, enough, leastOf(bests, enough));
        Sharing fewest = null;
        for (Sharing one : bests) {
            if (fewest == null && one != null && one.clashes == 0) fewest = one;
        }
        Due.is(name + " fewest by " + most, real.fewest(most), fewest.sizes.size());
        compareGroups(most, 0, fewest);
    }

    /** Each third key is looked at, so that no object is used for more than 512 calls. */
    private void compareGroups(int most, int strings, Sharing due) {
        String what = name + " by " + most + " of " + strings;
        Due.is(what, real.setUp(most, strings), due.sizes.size());
        int key = chance.nextInt(n);
        Due.is(what + " group of " + key, real.group(most, strings, key), due.groupOf(key));
        for (int i = key % 3; i < n; i += 3) Due.is(what + " key " + i, real.about(i, 0), due.groupOf(i));
    }
}
