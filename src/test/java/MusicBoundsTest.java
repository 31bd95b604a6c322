/** The document's second section and promises 18 to 28, each sentence that names a bound: both sides of it. */
public final class MusicBoundsTest {
    private static final int UNKNOWN = TwoKeys.UNKNOWN, BAD = TwoKeys.BAD, STATE = TwoKeys.STATE, FULL = TwoKeys.FULL;
    private static final int NONE = TwoKeys.NONE;

    public static void main(String[] args) {
        pieces();
        emptyPiece();
        fortyNotes();
        fullPiece();
        keysOfNotes();
        begins();
        lengthsOfNotes();
        firstAndLastTick();
        noneBeginsAheadOfTheOneAhead();
        wiped();
        nothingBehindTheLast();
        silentSharesNothing();
        silentIsNeverHeard();
        clashAtOneTick();
        clashOfUnlikeKeysThatShare();
        clashNumbers();
        chokedWithinTheRest();
        chokesNotWhatSounds();
        restOfAString();
        fourNotesAtLeast();
        trillWithoutAGap();
        trillOfTwoUnlikeKeys();
        trillBehindATrill();
        badTrills();
        heardIsTheShortest();
        ticksToHear();
        lostTicks();
        passesIfAllAreThere();
        bookOfPieces();
        Due.end();
    }

    /** "PIECES 0 .. 3". */
    static void pieces() {
        TwoKeys x = new TwoKeys();
        for (int piece : new int[] {-1, 4}) {
            Due.is("18 piece " + piece, x.note(piece, 0, 0, 1), UNKNOWN);
            Due.is("19 piece " + piece, x.wipe(piece), UNKNOWN);
            Due.is("21 piece " + piece, x.clashes(piece), UNKNOWN);
            Due.is("22 piece " + piece, x.clash(piece, 0), UNKNOWN);
            Due.is("23 piece " + piece, x.chokes(piece), UNKNOWN);
            Due.is("24 piece " + piece, x.trills(piece, false), UNKNOWN);
            Due.is("24 piece, bad ones " + piece, x.trills(piece, true), UNKNOWN);
            Due.is("25 piece " + piece, x.heard(piece, 0, 0), UNKNOWN);
            Due.is("26 piece " + piece, x.lost(piece, 0), UNKNOWN);
            Due.is("27 piece " + piece, x.passes(piece), UNKNOWN);
        }
        for (int piece = 0; piece < 4; piece++) {
            for (int i = 0; i <= piece; i++) Due.is("18 in piece " + piece, x.note(piece, piece, 0, 1), i);
            Due.is("25 of piece " + piece, x.heard(piece, piece, 0), piece);
        }
        Due.is("40 all", x.count(2), 10);
        for (int piece = 0; piece < 4; piece++) Due.is("19 piece " + piece, x.wipe(piece), piece + 1);
        Due.is("40 none", x.count(2), 0);
    }

    /** A piece without notes: nothing clashes, is choked, heard or lost, and it passes. */
    static void emptyPiece() {
        TwoKeys x = new TwoKeys();
        x.strike(1, 0, 4000);
        x.rest(20);
        x.book(15);
        for (int piece = 0; piece < 4; piece++) {
            Due.is("21 empty", x.clashes(piece), 0);
            Due.is("22 empty", x.clash(piece, 0), NONE);
            Due.is("23 empty", x.chokes(piece), 0);
            Due.is("24 empty", x.trills(piece, false), 0);
            Due.is("24 empty, bad ones", x.trills(piece, true), 0);
            Due.is("25 empty", x.heard(piece, 0, 0), NONE);
            Due.is("25 empty, last tick", x.heard(piece, 23, 1100), NONE);
            Due.is("26 empty", x.lost(piece, 0), 0);
            Due.is("27 empty", x.passes(piece), 1);
            Due.is("19 empty", x.wipe(piece), 0);
        }
        Due.is("29 empty", x.together(0, 11), 0);
        Due.is("30 empty", x.fewest(6), 2);
        Due.is("31 empty", x.least(6, 2), 0);
        Due.is("40 empty", x.count(2), 0);
    }

    /** "have NOTES 0, 1, .. (40 at most each)"; "FULL". */
    static void fortyNotes() {
        TwoKeys x = new TwoKeys();
        for (int i = 0; i < 40; i++) Due.is("18 number " + i, x.note(3, i % 24, 24 * i, 1), i);
        Due.is("18 one more", x.note(3, 0, 999, 1), FULL);
        Due.is("18 one more at the begin of the last", x.note(3, 0, 936, 1), FULL);
        Due.is("18 one more, and ahead", x.note(3, 0, 935, 1), STATE);
        Due.is("18 one more, and too long", x.note(3, 0, 999, 100), BAD);
        Due.is("18 one more, and ahead, and too long", x.note(3, 0, 0, 100), BAD);
        Due.is("40 kept", x.count(2), 40);
        for (int piece = 0; piece < 3; piece++) Due.is("18 the others are not full", x.note(piece, 0, 0, 1), 0);
        Due.is("19 full", x.wipe(3), 40);
        Due.is("18 anew", x.note(3, 0, 0, 1), 0);
    }

    /** A piece of 40 notes, the first and the last of which count like all others. */
    static void fullPiece() {
        TwoKeys x = new TwoKeys();
        x.strike(1, 0, 4000);
        for (int i = 0; i < 40; i++) x.note(2, i == 0 || i == 39 ? i % 2 : 5, i == 0 ? 0 : 10, i == 0 ? 11 : 1);
        Due.is("21 the first and the last", x.clashes(2), 1);
        Due.is("22 the first and the last", x.clash(2, 0), 39);
        Due.is("22 no more", x.clash(2, 1), NONE);
        Due.is("25 the last", x.heard(2, 0, 10), 1);
        Due.is("26 by the last", x.lost(2, 0), 1);
        Due.is("27 by the last", x.passes(2), 0);
        x.book(4);
        Due.is("29 by the last", x.together(0, 1), 1);
        x.wipe(2);
        for (int i = 0; i < 40; i++) x.note(2, i < 36 ? 5 : i % 2, i, 1);
        Due.is("24 the last four", x.trills(2, false), 1);
        Due.is("24 the last four are bad", x.trills(2, true), 1);
        Due.is("23 among the last four", x.chokes(2), 3);
        x.wipe(2);
        for (int i = 0; i < 40; i++) x.note(2, i % 2, 0, 99);
        Due.is("21 all", x.clashes(2), 400);
        Due.is("22 the last pair", x.clash(2, 399), 40 * 38 + 39);
        Due.is("22 behind it", x.clash(2, 400), NONE);
        x.wipe(2);
        for (int i = 0; i < 39; i++) x.note(2, i % 2, i, 1);
        x.note(2, 12, 39, 1);
        Due.is("27 the last one is not there", x.passes(2), 0);
        x.keys(13);
        Due.is("27 the last one is there", x.passes(2), 1);
    }

    /** "a KEY (0 .. 23)": of a note, whether the key is there or not. */
    static void keysOfNotes() {
        TwoKeys x = new TwoKeys();
        x.keys(1);
        for (int key = 0; key < 24; key++) Due.is("18 key " + key, x.note(0, key, 0, 1), key);
        Due.is("18 key 24", x.note(0, 24, 0, 1), BAD);
        Due.is("18 key -1", x.note(0, -1, 0, 1), BAD);
        Due.is("18 kept", x.count(2), 24);
        x.keys(24);
        for (int key = 0; key < 24; key++) Due.is("25 key " + key, x.heard(0, key, 0), key);
    }

    /** "a BEGIN (0 .. 999)". */
    static void begins() {
        TwoKeys x = new TwoKeys();
        Due.is("18 begins at -1", x.note(0, 0, -1, 1), BAD);
        Due.is("18 begins at 1000", x.note(0, 0, 1000, 1), BAD);
        Due.is("18 nothing came", x.count(2), 0);
        Due.is("18 begins at 0", x.note(0, 0, 0, 1), 0);
        Due.is("18 begins at 999", x.note(0, 0, 999, 1), 1);
        Due.is("18 begins at 1000 still", x.note(0, 0, 1000, 1), BAD);
        Due.is("25 tick 0", x.heard(0, 0, 0), 0);
        Due.is("25 tick 1", x.heard(0, 0, 1), NONE);
        Due.is("25 tick 998", x.heard(0, 0, 998), NONE);
        Due.is("25 tick 999", x.heard(0, 0, 999), 0);
        Due.is("25 tick 1000", x.heard(0, 0, 1000), NONE);
    }

    /** "a LENGTH (1 .. 99 ticks)". */
    static void lengthsOfNotes() {
        TwoKeys x = new TwoKeys();
        Due.is("18 0 ticks", x.note(0, 0, 0, 0), BAD);
        Due.is("18 100 ticks", x.note(0, 0, 0, 100), BAD);
        Due.is("18 -1 ticks", x.note(0, 0, 0, -1), BAD);
        Due.is("18 nothing came", x.count(2), 0);
        Due.is("18 1 tick", x.note(0, 0, 5, 1), 0);
        Due.is("18 99 ticks", x.note(0, 1, 5, 99), 1);
        for (int tick : new int[] {4, 5, 6}) Due.is("25 one tick " + tick, x.heard(0, 0, tick), tick == 5 ? 0 : NONE);
        int[] ticks = {4, 5, 103, 104};
        int[] due = {NONE, 1, 1, NONE};
        for (int i = 0; i < 4; i++) Due.is("25 99 ticks " + ticks[i], x.heard(0, 1, ticks[i]), due[i]);
    }

    /** "it sounds at ticks BEGIN .. BEGIN and LENGTH less 1": each tick of a note, and none beside. */
    static void firstAndLastTick() {
        TwoKeys x = new TwoKeys();
        x.note(0, 3, 900, 7);
        for (int tick = 890; tick < 920; tick++) {
            Due.is("25 tick " + tick, x.heard(0, 3, tick), 900 <= tick && tick <= 906 ? 3 : NONE);
        }
        x.note(0, 3, 999, 99);
        for (int tick = 1090; tick <= 1100; tick++) {
            Due.is("25 late tick " + tick, x.heard(0, 3, tick), tick <= 1097 ? 3 : NONE);
        }
    }

    /** "NOTES come by BEGIN, none less than the one ahead."; "STATE: it begins ahead of the one ahead". */
    static void noneBeginsAheadOfTheOneAhead() {
        TwoKeys x = new TwoKeys();
        x.note(1, 0, 500, 9);
        Due.is("18 one tick ahead", x.note(1, 1, 499, 9), STATE);
        Due.is("18 at the same tick", x.note(1, 1, 500, 9), 1);
        Due.is("18 one tick behind", x.note(1, 1, 501, 9), 2);
        Due.is("18 ahead of the last, not of the first", x.note(1, 1, 500, 9), STATE);
        Due.is("18 at tick 0", x.note(1, 1, 0, 9), STATE);
        Due.is("18 another piece is free", x.note(0, 1, 0, 9), 0);
        Due.is("18 and has its own last one", x.note(0, 1, 0, 9), 1);
        Due.is("18 refused ones do not count as ahead", x.note(1, 1, 999, 100), BAD);
        Due.is("18 so this comes", x.note(1, 1, 501, 9), 3);
        Due.is("18 kept", x.count(2), 6);
    }

    /** "A PIECE is wiped out: how many NOTES it had." */
    static void wiped() {
        TwoKeys x = new TwoKeys();
        x.note(0, 0, 999, 9);
        x.note(1, 0, 7, 9);
        Due.is("19 one", x.wipe(0), 1);
        Due.is("19 none", x.wipe(0), 0);
        Due.is("18 from tick 0 anew", x.note(0, 0, 0, 9), 0);
        Due.is("19 the other stays", x.wipe(1), 1);
        Due.is("40 one is left", x.count(2), 1);
        x.book(15);
        x.wipe(0);
        Due.is("28 the book stays", x.book(0), 15);
    }

    /** Behind the last note of a piece that was full and wiped nothing counts. */
    static void nothingBehindTheLast() {
        for (int left = 0; left < 5; left++) {
            TwoKeys x = new TwoKeys();
            x.strike(1, 0, 4000);
            x.rest(20);
            x.book(15);
            for (int piece = 0; piece < 4; piece++) {
                for (int i = 0; i < 40; i++) x.note(piece, i < 20 ? i % 2 : 23, i, 99);
                Due.is("19 full", x.wipe(piece), 40);
                for (int i = 0; i < left; i++) x.note(piece, i % 2, 0, 1);
                // notes of key 0 and key 1 in turns, all at tick 0
                int pairs = left / 2 * (left - left / 2);
                Due.is("21 of " + left, x.clashes(piece), pairs);
                Due.is("22 of " + left, x.clash(piece, pairs), NONE);
                Due.is("23 of " + left, x.chokes(piece), 0);
                Due.is("24 of " + left, x.trills(piece, false), left == 4 ? 1 : 0);
                Due.is("25 of " + left, x.heard(piece, 0, 1), NONE);
                Due.is("26 of " + left, x.lost(piece, 0), left > 1 ? 1 : 0);
                Due.is("27 of " + left, x.passes(piece), left > 1 ? 0 : 1);
                Due.is("29 of " + left, x.together(0, 1), pairs * (piece + 1));
            }
        }
    }

    /** "A KEY that is not there (n and more) is SILENT: it SHARES nothing". */
    static void silentSharesNothing() {
        TwoKeys x = new TwoKeys();
        x.strike(11, 10, 4000);
        for (int i = 0; i < 4; i++) x.note(0, 10 + i % 2, i, 2);
        x.note(0, 10, 5, 1);
        x.book(1);
        Due.is("21 there", x.clashes(0), 3);
        Due.is("22 there", x.clash(0, 0), 1);
        Due.is("23 there", x.chokes(0), 1);
        Due.is("24 there", x.trills(0, true), 1);
        Due.is("8 there", x.sharers(10), 2);
        Due.is("29 there", x.together(0, 11), 3);
        Due.is("30 there", x.fewest(6), 3);
        x.keys(11);
        Due.is("21 silent", x.clashes(0), 0);
        Due.is("22 silent", x.clash(0, 0), NONE);
        Due.is("23 silent", x.chokes(0), 0);
        Due.is("24 silent", x.trills(0, true), 0);
        Due.is("24 a trill all the same", x.trills(0, false), 1);
        Due.is("8 silent", x.sharers(10), 1);
        Due.is("29 silent", x.together(0, 10), 0);
        Due.is("30 silent", x.fewest(6), 2);
        Due.is("31 silent", x.least(6, 2), 0);
        x.keys(10);
        Due.is("8 both silent", x.sharers(10), 0);
        Due.is("21 both silent", x.clashes(0), 0);
        Due.is("24 both silent", x.trills(0, true), 0);
        Due.is("23 both silent", x.chokes(0), 0);
        x.keys(12);
        Due.is("21 there again", x.clashes(0), 3);
        Due.is("23 there again", x.chokes(0), 1);
        Due.is("24 there again", x.trills(0, true), 1);
        Due.is("29 there again", x.together(0, 11), 3);
    }

    /** ".. is never HEARD": and hides none that is there. */
    static void silentIsNeverHeard() {
        TwoKeys x = new TwoKeys();
        x.strike(11, 0, 500);
        x.note(0, 0, 0, 9);
        x.note(0, 11, 0, 9);
        x.note(0, 12, 0, 9);
        Due.is("25 there", x.heard(0, 0, 0), 11);
        Due.is("26 lost", x.lost(0, 0), 9);
        Due.is("25 not there", x.heard(0, 12, 0), NONE);
        x.keys(11);
        Due.is("25 silent", x.heard(0, 0, 0), 0);
        Due.is("26 not lost", x.lost(0, 0), 0);
        Due.is("26 a silent one", x.lost(0, 11), UNKNOWN);
        x.keys(13);
        Due.is("25 comes anew", x.heard(0, 12, 0), 12);
    }

    /** Two notes, of keys 0 and 1 on one string. */
    private static TwoKeys two(int beginA, int lengthA, int beginB, int lengthB) {
        TwoKeys x = new TwoKeys();
        x.strike(1, 0, 4000);
        x.note(0, 0, beginA, lengthA);
        x.note(0, 1, beginB, lengthB);
        return x;
    }

    /** "CLASH, if they sound at one tick." */
    static void clashAtOneTick() {
        Due.is("21 the last tick", two(0, 10, 9, 1).clashes(0), 1);
        Due.is("21 right behind it", two(0, 10, 10, 1).clashes(0), 0);
        Due.is("21 at once", two(5, 1, 5, 1).clashes(0), 1);
        Due.is("21 one behind the other", two(5, 1, 6, 1).clashes(0), 0);
        Due.is("21 a short one first", two(5, 1, 5, 99).clashes(0), 1);
        Due.is("21 a short one last", two(5, 99, 5, 1).clashes(0), 1);
        Due.is("21 the last of 99", two(900, 99, 998, 99).clashes(0), 1);
        Due.is("21 behind the last of 99", two(900, 99, 999, 99).clashes(0), 0);
        Due.is("27 the last tick", two(0, 10, 9, 1).passes(0), 0);
        Due.is("27 right behind it", two(0, 10, 10, 1).passes(0), 1);
        TwoKeys x = two(0, 10, 9, 1);
        x.book(1);
        Due.is("29 the last tick", x.together(0, 1), 1);
        TwoKeys y = two(0, 10, 10, 1);
        y.book(1);
        Due.is("29 right behind it", y.together(0, 1), 0);
    }

    /** "Two NOTES of unlike KEYS that SHARE a STRING". */
    static void clashOfUnlikeKeysThatShare() {
        TwoKeys x = new TwoKeys();
        x.note(0, 0, 0, 9);
        x.note(0, 0, 0, 9);
        x.note(0, 1, 0, 9);
        Due.is("21 one key, or apart", x.clashes(0), 0);
        x.strike(1, 0, 4000);
        Due.is("21 shared", x.clashes(0), 2);
        x.strike(1, 0, 5000);
        Due.is("21 like long", x.clashes(0), 2);
        x.note(1, 1, 0, 9);
        x.wipe(0);
        x.note(0, 0, 0, 9);
        Due.is("21 of another piece", x.clashes(0), 0);
        x.book(3);
        Due.is("29 of another piece", x.together(0, 1), 0);
    }

    /** "The i-th pair, by its later NOTE, then the one ahead: 40 times the one ahead, and the later one; NONE." */
    static void clashNumbers() {
        TwoKeys x = new TwoKeys();
        x.strike(1, 0, 4000);
        x.strike(2, 0, 3000);
        x.note(0, 0, 0, 9);
        x.note(0, 1, 0, 1);
        x.note(0, 2, 0, 9);
        x.note(0, 1, 1, 9);
        int[] due = {1, 2, 42, 3, 83, NONE};
        for (int i = 0; i < due.length; i++) Due.is("22 pair " + i, x.clash(0, i), due[i]);
        Due.is("22 pair -1", x.clash(0, -1), NONE);
        Due.is("22 the least i", x.clash(0, Integer.MIN_VALUE), NONE);
        Due.is("22 the greatest i", x.clash(0, Integer.MAX_VALUE), NONE);
        Due.is("21 as many", x.clashes(0), 5);
    }

    /** "if it begins at one of the g ticks right behind a's last one, .. (0 .. 20; 1 at first)". */
    static void chokedWithinTheRest() {
        TwoKeys x = two(10, 5, 15, 1);
        Due.is("23 the first tick, at first", x.chokes(0), 1);
        Due.is("23 the second tick, at first", two(10, 5, 16, 1).chokes(0), 0);
        for (int g = 0; g <= 20; g++) {
            for (int wait = 0; wait <= 21; wait++) {
                TwoKeys y = two(10, 5, 15 + wait, 1);
                y.rest(g);
                Due.is("23 " + wait + " behind, rest " + g, y.chokes(0), wait < g ? 1 : 0);
            }
        }
        TwoKeys z = two(10, 99, 128, 1);
        z.rest(20);
        Due.is("23 the twentieth tick", z.chokes(0), 1);
        z = two(10, 99, 129, 1);
        z.rest(20);
        Due.is("23 one later", z.chokes(0), 0);
    }

    /** A note that begins while the other sounds, or at once with it, clashes and does not choke; nor one key itself. */
    static void chokesNotWhatSounds() {
        for (int begin = 10; begin <= 14; begin++) {
            TwoKeys x = two(10, 5, begin, 9);
            x.rest(20);
            Due.is("23 at tick " + begin, x.chokes(0), 0);
            Due.is("21 at tick " + begin, x.clashes(0), 1);
        }
        TwoKeys y = new TwoKeys();
        y.rest(20);
        y.note(0, 0, 0, 1);
        y.note(0, 0, 1, 1);
        y.note(0, 1, 1, 1);
        Due.is("23 one key, or apart", y.chokes(0), 0);
        y.strike(1, 0, 4000);
        Due.is("23 shared", y.chokes(0), 1);
        y.note(0, 0, 2, 1);
        Due.is("23 the one between does not help", y.chokes(0), 2);
        y.note(0, 1, 3, 1);
        // 0 by 2 and 4; 1 by 4; 2 by 3; 3 by 4
        Due.is("23 each pair", y.chokes(0), 5);
    }

    /** "THE REST that a string needs: what it was. BAD." */
    static void restOfAString() {
        TwoKeys x = new TwoKeys();
        Due.is("20 at first", x.rest(0), 1);
        Due.is("20 below 0", x.rest(-1), BAD);
        Due.is("20 most", x.rest(20), 0);
        Due.is("20 too much", x.rest(21), BAD);
        Due.is("20 kept", x.rest(1), 20);
    }

    private static TwoKeys row(int... keys) {
        TwoKeys x = new TwoKeys();
        x.strike(1, 0, 4000);
        for (int i = 0; i < keys.length; i++) x.note(0, keys[i], i, 1);
        return x;
    }

    /** "4 at least, of KEYS x, y, x, y, .." */
    static void fourNotesAtLeast() {
        Due.is("24 one", row(0).trills(0, false), 0);
        Due.is("24 two", row(0, 1).trills(0, false), 0);
        Due.is("24 three", row(0, 1, 0).trills(0, false), 0);
        Due.is("24 four", row(0, 1, 0, 1).trills(0, false), 1);
        Due.is("24 five", row(0, 1, 0, 1, 0).trills(0, false), 1);
        Due.is("24 eight", row(0, 1, 0, 1, 0, 1, 0, 1).trills(0, false), 1);
        int[] all = new int[40];
        for (int i = 0; i < 40; i++) all[i] = 22 + i % 2;
        Due.is("24 forty", row(all).trills(0, false), 1);
        Due.is("24 three, then the first again", row(0, 1, 0, 0, 1).trills(0, false), 0);
        Due.is("24 three behind a stranger", row(5, 0, 1, 0).trills(0, false), 0);
        Due.is("24 four behind a stranger", row(5, 0, 1, 0, 1).trills(0, false), 1);
    }

    /** "each beginning no later than the tick right behind the last one of that ahead". */
    static void trillWithoutAGap() {
        for (int late = 1; late < 4; late++) {
            for (int wait = 0; wait <= 2; wait++) {
                TwoKeys x = new TwoKeys();
                int tick = 0;
                for (int i = 0; i < 4; i++) {
                    if (i == late) tick += wait;
                    x.note(0, i % 2, tick, 3);
                    tick += 3;
                }
                Due.is("24 note " + late + " waits " + wait, x.trills(0, false), wait == 0 ? 1 : 0);
            }
        }
        TwoKeys y = new TwoKeys();
        y.note(0, 0, 0, 99);
        y.note(0, 1, 0, 1);
        y.note(0, 0, 2, 1);
        y.note(0, 1, 3, 1);
        Due.is("24 the one ahead has ended, though not the first", y.trills(0, false), 0);
        TwoKeys z = new TwoKeys();
        for (int i = 0; i < 4; i++) z.note(0, i % 2, 999, 1);
        Due.is("24 all at once", z.trills(0, false), 1);
    }

    /** "two unlike ones". */
    static void trillOfTwoUnlikeKeys() {
        Due.is("24 one key", row(0, 0, 0, 0, 0).trills(0, false), 0);
        Due.is("24 three keys", row(0, 1, 2, 0, 1, 2).trills(0, false), 0);
        Due.is("24 a third as the fourth", row(0, 1, 0, 2).trills(0, false), 0);
        Due.is("24 a third as the third", row(0, 1, 2, 1).trills(0, false), 0);
        Due.is("24 like ones at the end", row(0, 1, 0, 1, 1).trills(0, false), 1);
        Due.is("24 like ones at the begin", row(0, 0, 1, 0, 1).trills(0, false), 1);
        Due.is("24 like ones in the middle", row(0, 1, 1, 0, 1).trills(0, false), 0);
    }

    /** "as long as it goes on. (TRILLS are looked for from NOTE 0 on, behind one from its last NOTE on.)" */
    static void trillBehindATrill() {
        Due.is("24 they have a note in common", row(0, 1, 0, 1, 2, 1, 2).trills(0, false), 2);
        Due.is("24 the second is too short", row(0, 1, 0, 1, 2, 1).trills(0, false), 1);
        Due.is("24 not two notes in common", row(0, 1, 0, 1, 0, 2, 0, 2).trills(0, false), 2);
        Due.is("24 right behind", row(0, 1, 0, 1, 2, 3, 2, 3).trills(0, false), 2);
        Due.is("24 like ones between", row(0, 1, 0, 1, 1, 0, 1, 0).trills(0, false), 2);
        TwoKeys x = row(0, 1, 0, 1);
        for (int i = 0; i < 4; i++) x.note(0, i % 2, 10 + i, 1);
        Due.is("24 the same keys behind a gap", x.trills(0, false), 2);
        TwoKeys y = row(0, 1, 0, 1);
        for (int i = 0; i < 3; i++) y.note(0, 2 - i % 2, 10 + i, 1);
        Due.is("24 the common note does not reach over a gap", y.trills(0, false), 1);
    }

    /** "It is BAD, if both SHARE a STRING." */
    static void badTrills() {
        TwoKeys x = row(0, 1, 0, 1, 2, 1, 2);
        Due.is("24 one of two", x.trills(0, true), 1);
        x.strike(2, 0, 3000);
        Due.is("24 both", x.trills(0, true), 2);
        x.strike(0, 7, 3000);
        Due.is("24 the second", x.trills(0, true), 1);
        x.strike(2, 8, 3000);
        Due.is("24 none", x.trills(0, true), 0);
        Due.is("24 still two", x.trills(0, false), 2);
        x.strike(0, 0, 3000);
        x.strike(2, 0, 3000);
        x.keys(2);
        Due.is("24 key 2 is silent", x.trills(0, true), 1);
        x.keys(1);
        Due.is("24 key 1 is silent", x.trills(0, true), 0);
        Due.is("24 and trills all the same", x.trills(0, false), 2);
    }

    /** "of NOTES that sound then on it that which sounds shortest; of like ones that of the least KEY; NONE". */
    static void heardIsTheShortest() {
        TwoKeys x = new TwoKeys();
        x.strike(0, 5, 4001);
        x.strike(1, 5, 4000);
        x.strike(2, 5, 4000);
        x.note(0, 2, 0, 3);
        x.note(0, 1, 1, 1);
        x.note(0, 0, 1, 9);
        int[] due = {2, 1, 2, 0, 0};
        for (int tick = 0; tick < due.length; tick++) Due.is("25 tick " + tick, x.heard(0, 5, tick), due[tick]);
        Due.is("25 behind all", x.heard(0, 5, 10), NONE);
        Due.is("25 a string that none strikes", x.heard(0, 0, 1), NONE);
        x.bend(0, -1);
        Due.is("25 bent to be like, the least", x.heard(0, 5, 1), 0);
        x.bend(0, 0);
        x.bend(1, 1);
        Due.is("25 bent to be longer", x.heard(0, 5, 1), 2);
        x.bend(2, 1);
        Due.is("25 all like long", x.heard(0, 5, 1), 0);
        x.strike(0, 5, 9999);
        x.strike(1, 5, 500);
        Due.is("25 by the sounding length, not by the note's", x.heard(0, 5, 1), 1);
    }

    /** "BAD: tick is not 0 .. 1100." */
    static void ticksToHear() {
        TwoKeys x = new TwoKeys();
        x.note(0, 0, 0, 1);
        Due.is("25 tick -1", x.heard(0, 0, -1), BAD);
        Due.is("25 tick 0", x.heard(0, 0, 0), 0);
        Due.is("25 tick 1100", x.heard(0, 0, 1100), NONE);
        Due.is("25 tick 1101", x.heard(0, 0, 1101), BAD);
    }

    /** "At how many ticks a KEY of a PIECE is pressed by a NOTE, but not HEARD.": a tick counts once. */
    static void lostTicks() {
        Due.is("26 one tick", two(0, 10, 9, 1).lost(0, 0), 1);
        Due.is("26 no tick", two(0, 10, 10, 1).lost(0, 0), 0);
        Due.is("26 all ticks", two(0, 99, 0, 99).lost(0, 0), 99);
        Due.is("26 all but one", two(0, 99, 1, 99).lost(0, 0), 98);
        Due.is("26 the shorter one", two(0, 99, 0, 99).lost(0, 1), 0);
        TwoKeys x = two(0, 10, 5, 10);
        x.note(0, 0, 5, 3);
        x.note(0, 0, 7, 6);
        Due.is("26 two notes of a key at one tick", x.lost(0, 0), 8);
        x.note(0, 0, 14, 2);
        Due.is("26 the last tick of the other", x.lost(0, 0), 9);
        x.strike(1, 0, 5000);
        Due.is("26 like long, the lesser key", x.lost(0, 0), 0);
        // notes of key 0 at ticks 0 .. 12, 14, 15; of key 1 at 5 .. 14
        Due.is("26 like long, the greater key", x.lost(0, 1), 9);
        TwoKeys y = two(0, 10, 0, 10);
        y.wipe(0);
        Due.is("26 wiped", y.lost(0, 0), 0);
        y.note(0, 0, 999, 99);
        y.note(0, 1, 999, 99);
        Due.is("26 to the last tick", y.lost(0, 0), 99);
        int most = 0;
        TwoKeys z = new TwoKeys();
        z.strike(1, 0, 4000);
        for (int i = 0; i < 20; i++) {
            z.note(3, 0, 50 * i, 50);
            z.note(3, 1, 50 * i, 49);
            most += 49;
        }
        Due.is("26 a full piece", z.lost(3, 0), most);
    }

    /** "A PIECE PASSES, if all its KEYS are there, and no two NOTES CLASH." */
    static void passesIfAllAreThere() {
        TwoKeys x = new TwoKeys();
        x.note(0, 11, 0, 9);
        Due.is("27 the last key", x.passes(0), 1);
        x.keys(11);
        Due.is("27 gone", x.passes(0), 0);
        x.keys(12);
        Due.is("27 there anew", x.passes(0), 1);
        x.note(1, 12, 0, 9);
        Due.is("27 key n", x.passes(1), 0);
        Due.is("27 the other one", x.passes(0), 1);
        x.keys(24);
        x.note(2, 23, 0, 9);
        x.note(2, 22, 0, 9);
        Due.is("27 key 23", x.passes(2), 1);
        x.strike(22, 23, 4000);
        Due.is("27 clashes", x.passes(2), 0);
        x.keys(22);
        Due.is("27 silent ones clash not, but are not there", x.passes(2), 0);
    }

    /** "THE BOOK is a set of PIECES (as bits; none at first)."; "BAD: a bit is no PIECE." */
    static void bookOfPieces() {
        TwoKeys x = new TwoKeys();
        Due.is("28 none at first", x.count(3), 0);
        int was = 0;
        for (int set = 0; set < 16; set++) {
            Due.is("28 set " + set, x.book(set), was);
            Due.is("40 set " + set, x.count(3), Integer.bitCount(set));
            was = set;
        }
        for (int bit = 4; bit < 32; bit++) {
            Due.is("28 bit " + bit, x.book(1 << bit), BAD);
            Due.is("28 bit and all pieces " + bit, x.book(1 << bit | 15), BAD);
        }
        Due.is("28 all bits", x.book(-1), BAD);
        Due.is("28 kept", x.book(0), 15);
        for (int piece = 0; piece < 4; piece++) {
            for (int i = 0; i <= piece; i++) {
                x.note(piece, 0, 10 * i, 5);
                x.note(piece, 1, 10 * i, 5);
            }
        }
        Due.is("29 an empty book", x.together(0, 1), 0);
        for (int set = 0; set < 16; set++) {
            int due = (set & 1) + (set & 2) + 3 * (set >> 2 & 1) + 4 * (set >> 3);
            x.book(set);
            Due.is("29 set " + set, x.together(0, 1), due);
            Due.is("30 set " + set, x.fewest(6), set == 0 ? 2 : 3);
            Due.is("31 set " + set, x.least(6, 2), due);
        }
    }
}
