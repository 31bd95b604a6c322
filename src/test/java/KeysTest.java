/** Promises 1 to 9: keys, strings, tones. */
public final class KeysTest {
    private static final int[] NO_KEYS = {-1, 12, 24, Integer.MIN_VALUE, Integer.MAX_VALUE};
    private static final int[] NO_STRINGS = {-1, 24, Integer.MIN_VALUE, Integer.MAX_VALUE};

    public static void main(String[] args) {
        newObject();
        objectsAreApart();
        keys();
        strike();
        tension();
        bend();
        about();
        pressed();
        sharers();
        order();
        Due.end();
    }

    static void newObject() {
        TwoKeys x = new TwoKeys();
        int[] counts = {12, 12, 0, 0, 0, 0};
        for (int what = 0; what < 6; what++) Due.is("1 count " + what, x.count(what), counts[what]);
        Due.is("1 keys", x.keys(24), 12);
        for (int key = 0; key < 24; key++) {
            int goal = key < 12 ? 8000 : 16000;
            int[] abouts = {key, 5000, 0, 8000, goal, 8000 - goal};
            for (int what = 0; what < 6; what++) Due.is("1 about " + key + " " + what, x.about(key, what), abouts[what]);
            Due.is("1 measure " + key, x.measure(key, TwoKeys.NONE), TwoKeys.NONE);
            Due.is("1 tension " + key, x.tension(key, 100), 4000);
        }
        for (int scale = 0; scale < 5; scale++) {
            for (int step = 0; step < 12; step++) {
                Due.is("1 above", x.share(scale, step, true), 1);
                Due.is("1 below", x.share(scale, step, false), 1);
            }
        }
        Due.is("1 use", x.use(4), 0);
        Due.is("1 pitch", x.pitch(1000), 8000);
        Due.is("1 rest", x.rest(20), 1);
        Due.is("1 book", x.book(15), 0);
        for (int piece = 0; piece < 4; piece++) Due.is("1 wipe", x.wipe(piece), 0);
    }

    static void objectsAreApart() {
        TwoKeys x = new TwoKeys();
        x.keys(3);
        x.strike(0, 5, 700);
        x.tension(0, 200);
        x.step(0, 0, 2, 1);
        x.note(0, 1, 0, 5);
        x.measure(0, 500);
        x.pitch(9000);
        TwoKeys y = new TwoKeys();
        Due.is("1 other keys", y.count(0), 12);
        Due.is("1 other string", y.about(0, 0), 0);
        Due.is("1 other tone", y.about(0, 3), 8000);
        Due.is("1 other goal", y.about(0, 4), 8000);
        Due.is("1 other notes", y.count(2), 0);
        Due.is("1 other measured", y.count(4), 0);
    }

    static void keys() {
        TwoKeys x = new TwoKeys();
        int[] wrong = {0, 25, -1, -12, Integer.MIN_VALUE, Integer.MAX_VALUE};
        for (int n : wrong) Due.is("2 keys " + n, x.keys(n), TwoKeys.BAD);
        Due.is("2 kept", x.count(0), 12);
        Due.is("2 keys 24", x.keys(24), 12);
        x.strike(20, 3, 700);
        x.bend(20, -4);
        x.measure(20, 555);
        x.note(0, 20, 1, 2);
        Due.is("2 keys 1", x.keys(1), 24);
        Due.is("2 gone", x.about(1, 0), TwoKeys.UNKNOWN);
        Due.is("2 there", x.about(0, 0), 0);
        Due.is("2 strings", x.count(1), 1);
        Due.is("2 notes", x.count(2), 1);
        Due.is("2 measured", x.count(4), 0);
        Due.is("2 bent", x.count(5), 0);
        Due.is("2 keys 21", x.keys(21), 1);
        Due.is("2 same", x.keys(21), 21);
        Due.is("2 string left", x.about(20, 0), 3);
        Due.is("2 length left", x.about(20, 1), 700);
        Due.is("2 bent left", x.about(20, 2), -4);
        Due.is("2 measured left", x.measure(20, 600), 555);
        Due.is("2 not there", x.about(21, 0), TwoKeys.UNKNOWN);
    }

    static void strike() {
        TwoKeys x = new TwoKeys();
        Due.is("3 strike", x.strike(3, 23, 500), 3);
        x.bend(3, 7);
        Due.is("3 strike again", x.strike(3, 0, 9999), 23);
        Due.is("3 string", x.about(3, 0), 0);
        Due.is("3 length", x.about(3, 1), 9999);
        Due.is("3 not bent", x.about(3, 2), 0);
        x.bend(3, -9);
        for (int key : NO_KEYS) {
            Due.is("3 key " + key, x.strike(key, 1, 600), TwoKeys.UNKNOWN);
            Due.is("3 key first " + key, x.strike(key, 1, 1), TwoKeys.UNKNOWN);
        }
        for (int string : NO_STRINGS) {
            Due.is("3 string " + string, x.strike(3, string, 600), TwoKeys.UNKNOWN);
            Due.is("3 string first " + string, x.strike(3, string, 10000), TwoKeys.UNKNOWN);
        }
        int[] wrong = {499, 10000, 0, -5000, Integer.MIN_VALUE, Integer.MAX_VALUE};
        for (int length : wrong) Due.is("3 length " + length, x.strike(3, 1, length), TwoKeys.BAD);
        Due.is("3 kept string", x.about(3, 0), 0);
        Due.is("3 kept length", x.about(3, 1), 9999);
        Due.is("3 kept bent", x.about(3, 2), -9);
    }

    static void tension() {
        TwoKeys x = new TwoKeys();
        Due.is("4 tension", x.tension(0, 20000), 4000);
        Due.is("4 tone", x.about(0, 3), 40000);
        Due.is("4 other", x.about(1, 3), 8000);
        Due.is("4 least", x.tension(0, 100), 20000);
        Due.is("4 last string", x.tension(23, 101), 4000);
        Due.is("4 last string again", x.tension(23, 4000), 101);
        for (int string : NO_STRINGS) {
            Due.is("4 string " + string, x.tension(string, 4000), TwoKeys.UNKNOWN);
            Due.is("4 string first " + string, x.tension(string, 99), TwoKeys.UNKNOWN);
        }
        int[] wrong = {99, 20001, 0, -4000, Integer.MIN_VALUE, Integer.MAX_VALUE};
        for (int v : wrong) Due.is("4 v " + v, x.tension(0, v), TwoKeys.BAD);
        Due.is("4 kept", x.about(0, 3), 200);
    }

    static void bend() {
        TwoKeys x = new TwoKeys();
        Due.is("5 bend", x.bend(11, 40), 0);
        Due.is("5 tone", x.about(11, 3), 7936);
        Due.is("5 bend back", x.bend(11, -40), 40);
        Due.is("5 tone back", x.about(11, 3), 8064);
        Due.is("5 length", x.about(11, 1), 5000);
        for (int key : NO_KEYS) {
            Due.is("5 key " + key, x.bend(key, 0), TwoKeys.UNKNOWN);
            Due.is("5 key first " + key, x.bend(key, 41), TwoKeys.UNKNOWN);
        }
        int[] wrong = {41, -41, Integer.MIN_VALUE, Integer.MAX_VALUE};
        for (int v : wrong) Due.is("5 v " + v, x.bend(11, v), TwoKeys.BAD);
        Due.is("5 kept", x.about(11, 2), -40);
    }

    static void about() {
        TwoKeys x = new TwoKeys();
        x.keys(24);
        x.strike(23, 7, 6001);
        x.tension(7, 12345);
        x.bend(23, 3);
        x.step(2, 11, 999, 250);
        x.use(2);
        x.pitch(8001);
        int[] due = {7, 6001, 3, 20561, 63943, -43382};
        for (int what = 0; what < 6; what++) Due.is("6 about " + what, x.about(23, what), due[what]);
        Due.is("6 same step, octave below", x.about(11, 4), 31971);
        Due.is("6 tone of a shared string", x.about(7, 3), 24690);
        int[] wrong = {-1, 6, Integer.MIN_VALUE, Integer.MAX_VALUE};
        for (int what : wrong) {
            Due.is("6 what " + what, x.about(0, what), TwoKeys.BAD);
            Due.is("6 key first " + what, x.about(24, what), TwoKeys.UNKNOWN);
        }
        x.keys(12);
        for (int key : NO_KEYS) Due.is("6 key " + key, x.about(key, 0), TwoKeys.UNKNOWN);
    }

    static void pressed() {
        TwoKeys x = new TwoKeys();
        x.strike(0, 0, 9999);
        Due.is("7 tone", x.about(0, 3), 4000);
        Due.is("7 nothing cut", x.pressed(0, 1), 4004);
        x.strike(1, 0, 7001);
        Due.is("7 p 0", x.pressed(1, 0), 5713);
        Due.is("7 p 1", x.pressed(1, 1), 5718);
        Due.is("7 p 20", x.pressed(1, 20), 5827);
        x.bend(1, -40);
        Due.is("7 bent", x.pressed(1, 20), 5860);
        int[] wrong = {-1, 21, Integer.MIN_VALUE, Integer.MAX_VALUE};
        for (int p : wrong) {
            Due.is("7 p " + p, x.pressed(0, p), TwoKeys.BAD);
            Due.is("7 key first " + p, x.pressed(12, p), TwoKeys.UNKNOWN);
        }
        for (int key : NO_KEYS) Due.is("7 key " + key, x.pressed(key, 0), TwoKeys.UNKNOWN);
    }

    static void sharers() {
        TwoKeys x = new TwoKeys();
        Due.is("8 one", x.sharers(0), 1);
        Due.is("8 not there", x.sharers(12), 0);
        x.strike(1, 0, 4000);
        x.strike(2, 0, 3000);
        Due.is("8 three", x.sharers(0), 3);
        Due.is("8 left", x.sharers(1), 0);
        x.keys(2);
        Due.is("8 silent", x.sharers(0), 2);
        x.keys(24);
        Due.is("8 last", x.sharers(23), 1);
        for (int string : NO_STRINGS) Due.is("8 string " + string, x.sharers(string), TwoKeys.UNKNOWN);
    }

    static void order() {
        TwoKeys x = new TwoKeys();
        Due.is("9 nothing shared", x.order(), 1);
        x.strike(2, 5, 4000);
        x.strike(9, 5, 4001);
        Due.is("9 key 5 is longest, 9 longer than 2", x.order(), 0);
        x.strike(2, 5, 5080);
        x.strike(5, 5, 5000);
        Due.is("9 falls", x.order(), 1);
        x.bend(2, -40);
        x.bend(5, 40);
        Due.is("9 like ones", x.order(), 0);
        x.bend(5, 39);
        Due.is("9 by one", x.order(), 1);
        x.strike(11, 5, 9000);
        Due.is("9 the last key", x.order(), 0);
        x.keys(11);
        Due.is("9 silent", x.order(), 1);
        x.keys(1);
        Due.is("9 one key", x.order(), 1);
        TwoKeys y = new TwoKeys();
        y.strike(1, 0, 5000);
        Due.is("9 the first two", y.order(), 0);
        y.bend(0, 1);
        Due.is("9 the first two bent", y.order(), 1);
        y.keys(13);
        y.strike(12, 0, 9999);
        y.keys(12);
        Due.is("9 right behind the last", y.order(), 1);
    }
}
