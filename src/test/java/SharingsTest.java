/** Promises 29 to 33: sharings. */
public final class SharingsTest {
    private static final int[] NO_KEYS = {-1, 12, 24, Integer.MIN_VALUE, Integer.MAX_VALUE};
    private static final int[] NO_MOST = {0, 7, -1, Integer.MIN_VALUE, Integer.MAX_VALUE};

    public static void main(String[] args) {
        together();
        fewest();
        least();
        leastTakesFewestStrings();
        greaterGroupsFirst();
        groupRefusals();
        setUp();
        setUpRefusals();
        twentyFourKeys();
        Due.end();
    }

    /** A piece in which all of these keys sound at once. */
    private static void chord(TwoKeys x, int piece, int begin, int... keys) {
        for (int key : keys) x.note(piece, key, begin, 5);
    }

    private static void groups(String what, TwoKeys x, int most, int strings, String due) {
        for (int key = 0; key < due.length(); key++) {
            Due.is(what + " key " + key, x.group(most, strings, key), due.charAt(key) - 'a');
        }
    }

    static void together() {
        TwoKeys x = new TwoKeys();
        chord(x, 0, 0, 0, 1, 2);
        chord(x, 0, 5, 2, 3, 3);
        chord(x, 3, 0, 2, 3);
        chord(x, 3, 900, 11, 12, 23);
        Due.is("29 no book", x.together(0, 11), 0);
        x.book(1);
        Due.is("29 piece 0", x.together(0, 11), 5);
        Due.is("29 two keys", x.together(2, 3), 2);
        Due.is("29 one key", x.together(3, 3), 0);
        Due.is("29 the lower ones", x.together(0, 2), 3);
        x.book(8);
        Due.is("29 piece 3", x.together(0, 11), 1);
        x.book(9);
        Due.is("29 both", x.together(0, 11), 6);
        Due.is("29 upper", x.together(3, 11), 0);
        x.strike(5, 0, 4000);
        x.strike(2, 1, 4000);
        Due.is("29 strings do not matter", x.together(0, 11), 6);
        for (int key : NO_KEYS) {
            Due.is("29 from " + key, x.together(key, 11), TwoKeys.UNKNOWN);
            Due.is("29 to " + key, x.together(0, key), TwoKeys.UNKNOWN);
        }
        Due.is("29 below", x.together(1, 0), TwoKeys.BAD);
        x.keys(24);
        Due.is("29 all", x.together(0, 23), 9);
        Due.is("29 last", x.together(12, 23), 1);
    }

    static void fewest() {
        TwoKeys x = new TwoKeys();
        int[] due = {0, 12, 6, 4, 3, 3, 2};
        for (int most = 1; most <= 6; most++) Due.is("30 most " + most, x.fewest(most), due[most]);
        for (int most : NO_MOST) Due.is("30 most " + most, x.fewest(most), TwoKeys.BAD);
        chord(x, 1, 0, 0, 1);
        chord(x, 2, 0, 6, 7);
        x.book(2);
        Due.is("30 piece 1", x.fewest(6), 3);
        groups("32 piece 1", x, 6, 0, "abbbbbbccccc");
        x.book(4);
        Due.is("30 piece 2", x.fewest(6), 3);
        groups("32 piece 2", x, 6, 0, "aaaaaabccccc");
        x.book(6);
        Due.is("30 both", x.fewest(6), 3);
        groups("32 both", x, 6, 0, "abbbbbbccccc");
        x.keys(1);
        Due.is("30 one key", x.fewest(6), 1);
        x.keys(2);
        Due.is("30 two keys", x.fewest(6), 2);
        x.book(0);
        Due.is("30 no book", x.fewest(6), 1);
        x.keys(24);
        Due.is("30 all", x.fewest(1), 24);
        Due.is("30 all by six", x.fewest(6), 4);
        x.wipe(0);
        for (int key = 0; key < 24; key++) x.note(0, key, 0, 1);
        x.book(1);
        Due.is("30 all at once", x.fewest(6), 24);
    }

    static void least() {
        TwoKeys x = new TwoKeys();
        x.keys(4);
        chord(x, 0, 0, 0, 1);
        chord(x, 0, 10, 0, 1);
        chord(x, 0, 20, 1, 2);
        chord(x, 0, 30, 2, 3);
        chord(x, 0, 40, 2, 3);
        chord(x, 0, 50, 2, 3);
        x.book(1);
        Due.is("31 one string", x.least(4, 1), 6);
        Due.is("31 two strings", x.least(4, 2), 3);
        Due.is("31 three strings", x.least(4, 3), 1);
        Due.is("31 four strings", x.least(4, 4), 0);
        Due.is("31 many strings", x.least(6, 24), 0);
        Due.is("31 by two", x.least(2, 2), 5);
        Due.is("31 too few", x.least(2, 1), TwoKeys.NONE);
        Due.is("31 too few by three", x.least(3, 1), TwoKeys.NONE);
        Due.is("31 too few by one", x.least(1, 3), TwoKeys.NONE);
        Due.is("31 enough", x.least(1, 4), 0);
        for (int most : NO_MOST) Due.is("31 most " + most, x.least(most, 4), TwoKeys.BAD);
        int[] wrong = {0, 25, -1, Integer.MIN_VALUE, Integer.MAX_VALUE};
        for (int strings : wrong) Due.is("31 strings " + strings, x.least(2, strings), TwoKeys.BAD);
        groups("32 three strings", x, 4, 3, "abbc");
        groups("32 two strings", x, 4, 2, "aaab");
        groups("32 by two", x, 2, 2, "aabb");
        groups("32 by two, three strings", x, 2, 3, "abbc");
        x.keys(3);
        Due.is("31 silent", x.least(4, 1), 3);
    }

    static void leastTakesFewestStrings() {
        TwoKeys x = new TwoKeys();
        x.keys(6);
        chord(x, 0, 0, 2, 3);
        x.book(1);
        Due.is("31 two will do", x.least(6, 6), 0);
        groups("32 fewest of like ones", x, 6, 6, "aaabbb");
        Due.is("33 fewest of like ones", x.setUp(6, 6), 2);
        Due.is("33 strings", x.count(1), 2);
        Due.is("33 one of six", x.setUp(6, 1), 1);
    }

    static void greaterGroupsFirst() {
        TwoKeys x = new TwoKeys();
        x.keys(7);
        groups("32 no book by three", x, 3, 0, "aaabbbc");
        groups("32 no book by two", x, 2, 0, "aabbccd");
        groups("32 no book by four", x, 4, 0, "aaaabbb");
        groups("32 no book by six", x, 6, 2, "aaaaaab");
        groups("32 least is like fewest", x, 3, 7, "aaabbbc");
        chord(x, 0, 0, 5, 6);
        x.book(1);
        groups("32 a second greater one", x, 3, 0, "aaabbbc");
        chord(x, 0, 10, 4, 5);
        groups("32 the first gives way", x, 3, 0, "aaabbcd");
        chord(x, 0, 20, 0, 2);
        groups("32 the first is smaller", x, 3, 0, "aabbbcd");
    }

    static void groupRefusals() {
        TwoKeys x = new TwoKeys();
        for (int key : NO_KEYS) {
            Due.is("32 key " + key, x.group(6, 0, key), TwoKeys.UNKNOWN);
            Due.is("32 key first " + key, x.group(0, 25, key), TwoKeys.UNKNOWN);
            Due.is("32 key ahead of none " + key, x.group(1, 1, key), TwoKeys.UNKNOWN);
        }
        for (int most : NO_MOST) {
            Due.is("32 most " + most, x.group(most, 0, 0), TwoKeys.BAD);
            Due.is("32 most ahead of none " + most, x.group(most, 1, 0), TwoKeys.BAD);
        }
        int[] wrong = {25, -1, Integer.MIN_VALUE, Integer.MAX_VALUE};
        for (int strings : wrong) Due.is("32 strings " + strings, x.group(6, strings, 0), TwoKeys.BAD);
        Due.is("32 too few", x.group(5, 2, 0), TwoKeys.NONE);
        Due.is("32 enough", x.group(6, 2, 11), 1);
        Due.is("32 most strings", x.group(1, 24, 11), 11);
    }

    static void setUp() {
        TwoKeys x = new TwoKeys();
        x.keys(14);
        x.strike(0, 9, 5000);
        x.strike(3, 9, 1234);
        x.bend(3, 17);
        x.strike(13, 20, 4321);
        x.tension(1, 5000);
        x.measure(3, 777);
        x.note(0, 0, 0, 1);
        x.note(0, 1, 0, 1);
        x.keys(12);
        Due.is("33 fewest", x.setUp(3, 0), 4);
        for (int key = 0; key < 12; key++) Due.is("33 string " + key, x.about(key, 0), key / 3);
        Due.is("33 length stays", x.about(3, 1), 1234);
        Due.is("33 bent stays", x.about(3, 2), 17);
        Due.is("33 tone by the new string", x.about(3, 3), 5000 * 10000 / 1251);
        Due.is("33 tension stays", x.tension(1, 5000), 5000);
        Due.is("33 measured stays", x.measure(3, 777), 777);
        Due.is("33 clashes now", x.clashes(0), 1);
        x.book(1);
        Due.is("33 no clash", x.setUp(6, 0), 3);
        Due.is("33 clashes gone", x.clashes(0), 0);
        Due.is("33 least", x.setUp(6, 2), 2);
        Due.is("33 least clashes", x.clashes(0), 1);
        Due.is("33 strings", x.count(1), 2);
        Due.is("33 by one", x.setUp(1, 24), 12);
        for (int key = 0; key < 12; key++) Due.is("33 string again " + key, x.about(key, 0), key);
        x.keys(14);
        Due.is("33 silent stays", x.about(13, 0), 20);
        Due.is("33 silent length stays", x.about(13, 1), 4321);
    }

    static void setUpRefusals() {
        TwoKeys x = new TwoKeys();
        x.strike(0, 5, 5000);
        for (int most : NO_MOST) {
            Due.is("33 most " + most, x.setUp(most, 0), TwoKeys.BAD);
            Due.is("33 most ahead of none " + most, x.setUp(most, 1), TwoKeys.BAD);
        }
        int[] wrong = {25, -1, Integer.MIN_VALUE, Integer.MAX_VALUE};
        for (int strings : wrong) Due.is("33 strings " + strings, x.setUp(6, strings), TwoKeys.BAD);
        Due.is("33 too few", x.setUp(6, 1), TwoKeys.NONE);
        Due.is("33 too few by one", x.setUp(1, 11), TwoKeys.NONE);
        Due.is("33 kept", x.about(0, 0), 5);
        Due.is("33 kept strings", x.sharers(5), 2);
    }

    static void twentyFourKeys() {
        TwoKeys x = new TwoKeys();
        x.keys(24);
        for (int piece = 0; piece < 4; piece++) {
            for (int i = 0; i < 40; i++) x.note(piece, i % 24, 0, 99);
        }
        x.book(15);
        // 40 notes: 16 keys twice, 8 once; pairs of one key do not clash
        Due.is("29 full book", x.together(0, 23), 4 * (780 - 16));
        Due.is("31 four strings", x.least(6, 4), 4 * (60 + 60 + 6 * 4 + 8 * 2 + 1 + 15));
        Due.is("30 all apart", x.fewest(6), 24);
        Due.is("31 too few", x.least(6, 3), TwoKeys.NONE);
        Due.is("32 last", x.group(6, 0, 23), 23);
        Due.is("33 all", x.setUp(6, 24), 24);
    }
}
