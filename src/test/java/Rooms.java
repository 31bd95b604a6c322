/**
 * Rooms to be refused in, and all that can be seen of a room. One that is made here and read once has had fewer than
 * 512 calls, so that a refused call between both is still within what the document promises.
 */
final class Rooms {
    /** Where a note of a busy room begins and ends: piece, key, the first tick, the last one. */
    private static final int[][] ENDS = {{0, 0, 0, 0}, {0, 12, 10, 14}, {0, 23, 10, 108}, {3, 5, 999, 1097}};

    private Rooms() {
    }

    /** All differs from what it is at first; piece 1 is full, piece 2 empty, keys 12 to 23 may be silent. */
    static TwoKeys busy(int n) {
        TwoKeys x = new TwoKeys();
        x.keys(24);
        x.strike(0, 5, 9000);
        x.strike(12, 5, 4321);
        x.strike(23, 0, 500);
        x.bend(0, 40);
        x.bend(12, -40);
        x.bend(23, 1);
        x.tension(5, 20000);
        x.tension(23, 100);
        x.step(0, 0, 4, 1);
        x.step(4, 11, 1, 999);
        x.use(4);
        x.pitch(12345);
        x.rest(20);
        x.book(10);
        x.measure(0, 100);
        x.measure(12, 400000);
        x.measure(23, 5000);
        for (int[] note : ENDS) x.note(note[0], note[1], note[2], note[3] - note[2] + 1);
        for (int i = 0; i < 40; i++) x.note(1, i % 12, 10 * i, 1 + i);
        x.keys(n);
        return x;
    }

    /** All of a room that calls can see, without what follows from the rest. The room is worn out by it. */
    static int[] seen(TwoKeys x) {
        Row row = new Row();
        row.add(x.keys(24));
        for (int key = 0; key < 24; key++) {
            for (int what = 0; what < 3; what++) row.add(x.about(key, what));
            row.add(x.measure(key, TwoKeys.NONE));
        }
        for (int string = 0; string < 24; string++) row.add(x.tension(string, 4000));
        for (int scale = 0; scale < 5; scale++) {
            for (int step = 0; step < 12; step++) {
                row.add(x.share(scale, step, true));
                row.add(x.share(scale, step, false));
            }
        }
        row.add(x.use(0));
        row.add(x.pitch(8000));
        row.add(x.rest(1));
        row.add(x.book(0));
        addNotes(row, x);
        return row.all();
    }

    /** Each key has a string for itself then, so that each note is heard. */
    private static void addNotes(Row row, TwoKeys x) {
        for (int key = 0; key < 24; key++) x.strike(key, key, 5000);
        for (int[] note : ENDS) {
            row.add(x.heard(note[0], note[1], Math.max(0, note[2] - 1)));
            row.add(x.heard(note[0], note[1], note[2]));
            row.add(x.heard(note[0], note[1], note[3]));
            row.add(x.heard(note[0], note[1], note[3] + 1));
        }
        for (int i = 0; i < 40; i++) row.add(x.heard(1, i % 12, 11 * i));
        for (int piece = 0; piece < 4; piece++) row.add(x.wipe(piece));
    }

    private static final class Row {
        private final int[] values = new int[400];
        private int size = 0;

        void add(int value) {
            values[size++] = value;
        }

        int[] all() {
            return java.util.Arrays.copyOf(values, size);
        }
    }
}
