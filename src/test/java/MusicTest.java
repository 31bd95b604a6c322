/** Promises 18 to 28: music. */
public final class MusicTest {
    private static final int[] NO_PIECES = {-1, 4, Integer.MIN_VALUE, Integer.MAX_VALUE};

    public static void main(String[] args) {
        note();
        noteOrderOfRefusals();
        noteFull();
        wipe();
        wipedIsGone();
        rest();
        clashes();
        clash();
        chokes();
        trills();
        trillsOverlap();
        heard();
        lost();
        passes();
        book();
        unknownPieces();
        Due.end();
    }

    /** Keys 0, 1, 2 on string 0, key 1 the shortest; 3 and 4 like long on string 3. */
    private static TwoKeys shared() {
        TwoKeys x = new TwoKeys();
        x.strike(0, 0, 6000);
        x.strike(1, 0, 4000);
        x.strike(2, 0, 5000);
        x.strike(4, 3, 5000);
        return x;
    }

    static void note() {
        TwoKeys x = new TwoKeys();
        Due.is("18 first", x.note(0, 0, 0, 1), 0);
        Due.is("18 second at once", x.note(0, 23, 0, 99), 1);
        Due.is("18 last begin", x.note(0, 5, 999, 99), 2);
        Due.is("18 other piece", x.note(3, 5, 7, 1), 0);
        Due.is("18 notes", x.count(2), 4);
        Due.is("18 ahead", x.note(0, 5, 998, 1), TwoKeys.STATE);
        Due.is("18 other piece goes on", x.note(3, 5, 7, 1), 1);
        Due.is("18 kept", x.count(2), 5);
        Due.is("18 sounds", x.heard(0, 5, 1097), 5);
        Due.is("18 ends", x.heard(0, 5, 1098), TwoKeys.NONE);
    }

    static void noteOrderOfRefusals() {
        TwoKeys x = new TwoKeys();
        for (int i = 0; i < 40; i++) x.note(1, 0, 10, 1);
        for (int piece : NO_PIECES) {
            Due.is("18 piece " + piece, x.note(piece, 0, 0, 1), TwoKeys.UNKNOWN);
            Due.is("18 piece first " + piece, x.note(piece, 24, 0, 1), TwoKeys.UNKNOWN);
        }
        int[] keys = {-1, 24, Integer.MIN_VALUE, Integer.MAX_VALUE};
        for (int key : keys) {
            Due.is("18 key " + key, x.note(2, key, 10, 1), TwoKeys.BAD);
            Due.is("18 key ahead of the state " + key, x.note(1, key, 9, 1), TwoKeys.BAD);
        }
        int[] begins = {-1, 1000, Integer.MIN_VALUE, Integer.MAX_VALUE};
        for (int begin : begins) Due.is("18 begin " + begin, x.note(1, 0, begin, 1), TwoKeys.BAD);
        int[] lengths = {0, 100, -1, Integer.MIN_VALUE, Integer.MAX_VALUE};
        for (int length : lengths) Due.is("18 length " + length, x.note(1, 0, 9, length), TwoKeys.BAD);
        Due.is("18 state ahead of full", x.note(1, 0, 9, 1), TwoKeys.STATE);
        Due.is("18 full", x.note(1, 0, 10, 1), TwoKeys.FULL);
        Due.is("18 kept", x.count(2), 40);
    }

    static void noteFull() {
        TwoKeys x = new TwoKeys();
        for (int piece = 0; piece < 4; piece++) {
            for (int i = 0; i < 40; i++) Due.is("18 number", x.note(piece, piece, i, 1), i);
            Due.is("18 full", x.note(piece, 0, 999, 1), TwoKeys.FULL);
        }
        Due.is("18 all", x.count(2), 160);
        for (int piece = 0; piece < 4; piece++) {
            for (int i = 0; i < 40; i++) Due.is("18 apart", x.heard(piece, piece, i), piece);
        }
    }

    static void wipe() {
        TwoKeys x = new TwoKeys();
        x.note(0, 0, 5, 5);
        x.note(0, 0, 900, 5);
        x.note(1, 0, 5, 5);
        Due.is("19 wipe", x.wipe(0), 2);
        Due.is("19 again", x.wipe(0), 0);
        Due.is("19 not heard", x.heard(0, 0, 5), TwoKeys.NONE);
        Due.is("19 the other stays", x.heard(1, 0, 5), 0);
        Due.is("19 begins anew", x.note(0, 0, 0, 1), 0);
        Due.is("19 notes", x.count(2), 2);
    }

    /** Nothing of a wiped piece comes back, neither behind the new notes nor beside a longer piece. */
    static void wipedIsGone() {
        TwoKeys x = shared();
        x.keys(24);
        for (int i = 0; i < 40; i++) x.note(0, i % 2, 0, 99);
        x.wipe(0);
        x.keys(2);
        x.book(1);
        x.rest(20);
        x.note(0, 0, 0, 1);
        x.note(0, 1, 1, 1);
        x.note(0, 0, 2, 1);
        Due.is("19 clashes", x.clashes(0), 0);
        Due.is("19 clash", x.clash(0, 0), TwoKeys.NONE);
        Due.is("19 chokes", x.chokes(0), 2);
        Due.is("19 trills", x.trills(0, false), 0);
        Due.is("19 heard", x.heard(0, 0, 3), TwoKeys.NONE);
        Due.is("19 lost", x.lost(0, 1), 0);
        Due.is("19 together", x.together(0, 1), 0);
        Due.is("19 passes", x.passes(0), 1);
        x.wipe(0);
        for (int i = 0; i < 4; i++) x.note(0, 23, i, 1);
        x.wipe(0);
        x.note(0, 0, 0, 1);
        Due.is("19 passes anew", x.passes(0), 1);
    }

    static void rest() {
        TwoKeys x = new TwoKeys();
        Due.is("20 most", x.rest(20), 1);
        Due.is("20 least", x.rest(0), 20);
        int[] wrong = {-1, 21, Integer.MIN_VALUE, Integer.MAX_VALUE};
        for (int g : wrong) Due.is("20 g " + g, x.rest(g), TwoKeys.BAD);
        Due.is("20 kept", x.rest(5), 0);
    }

    static void clashes() {
        TwoKeys x = shared();
        Due.is("21 none", x.clashes(0), 0);
        x.note(0, 0, 10, 5);
        x.note(0, 0, 12, 5);
        Due.is("21 one key", x.clashes(0), 0);
        x.note(0, 3, 12, 5);
        Due.is("21 another string", x.clashes(0), 0);
        x.note(0, 1, 14, 1);
        Due.is("21 the last tick", x.clashes(0), 2);
        x.note(0, 2, 15, 9);
        Due.is("21 right behind", x.clashes(0), 3);
        x.note(0, 1, 17, 1);
        Due.is("21 within", x.clashes(0), 4);
        x.keys(2);
        Due.is("21 silent", x.clashes(0), 2);
        x.keys(12);
        x.strike(1, 1, 4000);
        Due.is("21 not shared", x.clashes(0), 1);
        Due.is("21 other piece", x.clashes(1), 0);
    }

    static void clash() {
        TwoKeys x = shared();
        x.note(2, 0, 0, 50);
        x.note(2, 1, 10, 30);
        x.note(2, 3, 10, 90);
        x.note(2, 2, 20, 5);
        x.note(2, 4, 20, 5);
        x.note(2, 0, 49, 5);
        int[] due = {1, 3, 43, 84, TwoKeys.NONE, TwoKeys.NONE};
        for (int i = 0; i < due.length; i++) Due.is("22 clash " + i, x.clash(2, i), due[i]);
        Due.is("22 below", x.clash(2, -1), TwoKeys.NONE);
        Due.is("22 far below", x.clash(2, Integer.MIN_VALUE), TwoKeys.NONE);
        Due.is("22 far above", x.clash(2, Integer.MAX_VALUE), TwoKeys.NONE);
        Due.is("22 other piece", x.clash(3, 0), TwoKeys.NONE);
        TwoKeys y = shared();
        for (int i = 0; i < 40; i++) y.note(0, i % 2, 0, 1);
        Due.is("22 the last one", y.clash(0, 399), 40 * 38 + 39);
        Due.is("22 all", y.clashes(0), 400);
        Due.is("22 behind the last one", y.clash(0, 400), TwoKeys.NONE);
    }

    static void chokes() {
        TwoKeys x = shared();
        x.note(0, 0, 0, 10);
        x.note(0, 1, 9, 1);
        Due.is("23 a clash does not choke", x.chokes(0), 0);
        x.note(0, 1, 10, 1);
        Due.is("23 right behind", x.chokes(0), 1);
        x.note(0, 0, 11, 1);
        Due.is("23 both ways", x.chokes(0), 2);
        x.note(0, 0, 12, 1);
        x.note(0, 3, 13, 1);
        Due.is("23 one key, another string", x.chokes(0), 2);
        x.note(0, 2, 13, 1);
        Due.is("23 third key", x.chokes(0), 3);
        x.rest(0);
        Due.is("23 no rest", x.chokes(0), 0);
        x.rest(2);
        // 0 by 2; 1 by 3; 2 by 3 and 4; 3 by 6; 4 by 6
        Due.is("23 two ticks", x.chokes(0), 6);
        x.rest(20);
        // 0 by 2 and 6; 1 and 2 by 3, 4 and 6; 3 and 4 by 6
        Due.is("23 twenty ticks", x.chokes(0), 10);
        x.keys(2);
        // without note 6: 0 by 2; 1 and 2 by 3 and 4
        Due.is("23 silent", x.chokes(0), 5);
        x.wipe(0);
        x.note(0, 0, 0, 10);
        x.note(0, 1, 29, 1);
        Due.is("23 the twentieth", x.chokes(0), 1);
        x.rest(19);
        Due.is("23 the twentieth of 19", x.chokes(0), 0);
    }

    private static void row(TwoKeys x, int piece, int... keys) {
        x.wipe(piece);
        for (int i = 0; i < keys.length; i++) x.note(piece, keys[i], 2 * i, 2);
    }

    static void trills() {
        TwoKeys x = shared();
        Due.is("24 nothing", x.trills(0, false), 0);
        row(x, 0, 0, 1, 0);
        Due.is("24 three", x.trills(0, false), 0);
        row(x, 0, 0, 1, 0, 1);
        Due.is("24 four", x.trills(0, false), 1);
        Due.is("24 bad", x.trills(0, true), 1);
        row(x, 0, 0, 0, 0, 0, 0);
        Due.is("24 like ones", x.trills(0, false), 0);
        row(x, 0, 0, 1, 2, 0, 1, 2);
        Due.is("24 three keys", x.trills(0, false), 0);
        row(x, 0, 5, 6, 5, 6, 5, 6, 5, 6, 5);
        Due.is("24 one long", x.trills(0, false), 1);
        Due.is("24 not bad", x.trills(0, true), 0);
        row(x, 0, 22, 23, 22, 23);
        Due.is("24 silent", x.trills(0, false), 1);
        x.keys(24);
        x.strike(22, 23, 6000);
        Due.is("24 bad above", x.trills(0, true), 1);
        x.keys(23);
        Due.is("24 silent is not bad", x.trills(0, true), 0);
        x.keys(12);
        x.wipe(0);
        for (int i = 0; i < 4; i++) x.note(0, i % 2, 3 * i, 2);
        Due.is("24 a tick between", x.trills(0, false), 0);
        x.wipe(0);
        for (int i = 0; i < 4; i++) x.note(0, i % 2, 0, 9);
        Due.is("24 at once", x.trills(0, false), 1);
    }

    static void trillsOverlap() {
        TwoKeys x = shared();
        row(x, 1, 0, 1, 0, 1, 5, 1, 5);
        Due.is("24 from the last note on", x.trills(1, false), 2);
        Due.is("24 one of both is bad", x.trills(1, true), 1);
        row(x, 1, 5, 1, 5, 1, 0, 1, 0, 6, 0, 6);
        Due.is("24 three in a row", x.trills(1, false), 3);
        Due.is("24 the second is bad", x.trills(1, true), 1);
        row(x, 1, 0, 1, 0, 1, 0, 5, 0, 5);
        Due.is("24 begins with 0, 5", x.trills(1, false), 2);
        row(x, 1, 7, 0, 0, 1, 0, 1);
        Due.is("24 late", x.trills(1, false), 1);
        row(x, 1, 0, 1, 0, 1, 5, 1);
        Due.is("24 the second is short", x.trills(1, false), 1);
        row(x, 1, 0, 1, 5, 1, 5);
        Due.is("24 behind a short one", x.trills(1, false), 1);
        row(x, 1, 0, 1, 0, 1);
        x.note(1, 0, 9, 1);
        x.note(1, 1, 10, 1);
        x.note(1, 0, 11, 1);
        Due.is("24 a gap ends it", x.trills(1, false), 1);
        x.note(1, 1, 12, 1);
        Due.is("24 one behind the gap", x.trills(1, false), 2);
        x.wipe(1);
        for (int i = 0; i < 40; i++) x.note(1, i % 2, i, 1);
        Due.is("24 a full piece", x.trills(1, true), 1);
    }

    static void heard() {
        TwoKeys x = shared();
        x.note(0, 0, 10, 20);
        x.note(0, 2, 12, 10);
        x.note(0, 1, 14, 3);
        x.note(0, 4, 20, 2);
        x.note(0, 3, 21, 2);
        int[] ticks = {9, 10, 11, 12, 13, 14, 16, 17, 21, 22, 29, 30};
        int none = TwoKeys.NONE;
        int[] due = {none, 0, 0, 2, 2, 1, 1, 2, 2, 0, 0, none};
        for (int i = 0; i < ticks.length; i++) Due.is("25 tick " + ticks[i], x.heard(0, 0, ticks[i]), due[i]);
        Due.is("25 alone", x.heard(0, 3, 20), 4);
        Due.is("25 like ones", x.heard(0, 3, 21), 3);
        x.note(0, 3, 30, 5);
        x.note(0, 4, 31, 5);
        Due.is("25 like ones, the least ahead", x.heard(0, 3, 31), 3);
        x.bend(4, -1);
        Due.is("25 bent", x.heard(0, 3, 21), 4);
        Due.is("25 other string", x.heard(0, 1, 14), none);
        x.keys(1);
        Due.is("25 silent", x.heard(0, 0, 14), 0);
        Due.is("25 first tick", x.heard(0, 0, 0), none);
        Due.is("25 last tick", x.heard(0, 23, 1100), none);
        int[] wrong = {-1, 1101, Integer.MIN_VALUE, Integer.MAX_VALUE};
        for (int tick : wrong) {
            Due.is("25 tick " + tick, x.heard(0, 0, tick), TwoKeys.BAD);
            Due.is("25 string first " + tick, x.heard(0, 24, tick), TwoKeys.UNKNOWN);
            Due.is("25 piece first " + tick, x.heard(4, 0, tick), TwoKeys.UNKNOWN);
        }
        int[] strings = {-1, 24, Integer.MIN_VALUE, Integer.MAX_VALUE};
        for (int string : strings) Due.is("25 string " + string, x.heard(0, string, 0), TwoKeys.UNKNOWN);
    }

    static void lost() {
        TwoKeys x = shared();
        x.note(0, 0, 10, 20);
        x.note(0, 2, 12, 10);
        x.note(0, 1, 14, 3);
        x.note(0, 0, 15, 10);
        x.note(0, 0, 29, 2);
        x.note(0, 1, 30, 5);
        Due.is("26 longest", x.lost(0, 0), 11);
        Due.is("26 middle", x.lost(0, 2), 3);
        Due.is("26 shortest", x.lost(0, 1), 0);
        Due.is("26 no note", x.lost(0, 5), 0);
        Due.is("26 other piece", x.lost(1, 0), 0);
        x.strike(0, 7, 6000);
        Due.is("26 not shared", x.lost(0, 0), 0);
        x.strike(0, 0, 6000);
        x.keys(2);
        Due.is("26 the silent one does not hide", x.lost(0, 0), 4);
        int[] wrong = {-1, 2, 23, 24, Integer.MIN_VALUE, Integer.MAX_VALUE};
        for (int key : wrong) Due.is("26 key " + key, x.lost(0, key), TwoKeys.UNKNOWN);
        x.wipe(0);
        x.note(0, 0, 999, 99);
        x.note(0, 1, 999, 99);
        Due.is("26 the last ticks", x.lost(0, 0), 99);
        x.wipe(0);
        x.note(0, 0, 0, 1);
        x.note(0, 1, 0, 1);
        Due.is("26 the first tick", x.lost(0, 0), 1);
    }

    static void passes() {
        TwoKeys x = shared();
        Due.is("27 nothing", x.passes(0), 1);
        x.note(0, 0, 0, 5);
        x.note(0, 5, 0, 5);
        x.note(0, 1, 5, 5);
        Due.is("27 no clash", x.passes(0), 1);
        Due.is("27 choked all the same", x.chokes(0), 1);
        x.note(0, 2, 9, 5);
        Due.is("27 a clash", x.passes(0), 0);
        x.strike(2, 2, 5000);
        Due.is("27 apart", x.passes(0), 1);
        x.note(0, 12, 999, 1);
        Due.is("27 not there", x.passes(0), 0);
        x.keys(13);
        Due.is("27 there", x.passes(0), 1);
    }

    static void book() {
        TwoKeys x = new TwoKeys();
        Due.is("28 all", x.book(15), 0);
        Due.is("28 count", x.count(3), 4);
        int[] wrong = {-1, 16, 17, Integer.MIN_VALUE, Integer.MAX_VALUE};
        for (int set : wrong) Due.is("28 set " + set, x.book(set), TwoKeys.BAD);
        Due.is("28 one", x.book(8), 15);
        Due.is("28 none", x.book(0), 8);
    }

    static void unknownPieces() {
        TwoKeys x = new TwoKeys();
        for (int piece : NO_PIECES) {
            Due.is("19 piece " + piece, x.wipe(piece), TwoKeys.UNKNOWN);
            Due.is("21 piece " + piece, x.clashes(piece), TwoKeys.UNKNOWN);
            Due.is("22 piece " + piece, x.clash(piece, 0), TwoKeys.UNKNOWN);
            Due.is("23 piece " + piece, x.chokes(piece), TwoKeys.UNKNOWN);
            Due.is("24 piece " + piece, x.trills(piece, false), TwoKeys.UNKNOWN);
            Due.is("25 piece " + piece, x.heard(piece, 0, 0), TwoKeys.UNKNOWN);
            Due.is("26 piece " + piece, x.lost(piece, 0), TwoKeys.UNKNOWN);
            Due.is("27 piece " + piece, x.passes(piece), TwoKeys.UNKNOWN);
        }
    }
}
