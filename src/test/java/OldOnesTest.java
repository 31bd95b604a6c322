/** Promises 34 to 40: old ones, and what is counted. */
public final class OldOnesTest {
    private static final int[] NO_KEYS = {-1, 12, 24, Integer.MIN_VALUE, Integer.MAX_VALUE};
    private static final int[] NO_SCALES = {-1, 5, Integer.MIN_VALUE, Integer.MAX_VALUE};
    private static final int[] NO_WHAT = {-1, 2, Integer.MIN_VALUE, Integer.MAX_VALUE};

    public static void main(String[] args) {
        measure();
        misfit();
        found();
        foundAtTheEnds();
        foundOfLikeOnes();
        foundWhereGoalsStandStill();
        foundRefusals();
        meant();
        added();
        addedByItsOwnPitch();
        bentLater();
        bentLaterByThePitchFound();
        count();
        Due.end();
    }

    static void measure() {
        TwoKeys x = new TwoKeys();
        Due.is("34 measure", x.measure(0, 100), TwoKeys.NONE);
        Due.is("34 again", x.measure(0, 400000), 100);
        Due.is("34 other", x.measure(11, 5000), TwoKeys.NONE);
        Due.is("34 both", x.count(4), 2);
        for (int key : NO_KEYS) {
            Due.is("34 key " + key, x.measure(key, 100), TwoKeys.UNKNOWN);
            Due.is("34 key first " + key, x.measure(key, 99), TwoKeys.UNKNOWN);
            Due.is("34 key of none " + key, x.measure(key, TwoKeys.NONE), TwoKeys.UNKNOWN);
        }
        int[] wrong = {99, 400001, 0, -1, TwoKeys.UNKNOWN, -100008, -100010, Integer.MIN_VALUE, Integer.MAX_VALUE};
        for (int tone : wrong) Due.is("34 tone " + tone, x.measure(0, tone), TwoKeys.BAD);
        Due.is("34 no more", x.measure(0, TwoKeys.NONE), 400000);
        Due.is("34 no more again", x.measure(0, TwoKeys.NONE), TwoKeys.NONE);
        Due.is("34 one left", x.count(4), 1);
    }

    static void misfit() {
        TwoKeys x = new TwoKeys();
        Due.is("35 nothing", x.misfit(0, 8000), 0);
        x.keys(24);
        x.step(3, 1, 9, 8);
        x.measure(0, 8100);
        x.measure(1, 8900);
        x.measure(13, 18001);
        Due.is("35 scale 3", x.misfit(3, 8000), 100 + 100 + 1);
        Due.is("35 scale 0", x.misfit(0, 8000), 100 + 900 + 2001);
        Due.is("35 cut", x.misfit(3, 8001), 99 + 101 + 1);
        x.pitch(9000);
        x.use(3);
        Due.is("35 not by the pitch", x.misfit(3, 8000), 201);
        x.keys(12);
        Due.is("35 silent", x.misfit(3, 8000), 200);
        Due.is("35 least", x.misfit(0, 1000), 7100 + 7900);
        Due.is("35 most", x.misfit(0, 200000), 400000 - 17000);
        for (int scale : NO_SCALES) {
            Due.is("35 scale " + scale, x.misfit(scale, 8000), TwoKeys.UNKNOWN);
            Due.is("35 scale first " + scale, x.misfit(scale, 0), TwoKeys.UNKNOWN);
        }
        int[] wrong = {999, 200001, 0, Integer.MIN_VALUE, Integer.MAX_VALUE};
        for (int pitch : wrong) Due.is("35 pitch " + pitch, x.misfit(0, pitch), TwoKeys.BAD);
    }

    static void found() {
        TwoKeys x = new TwoKeys();
        x.step(1, 4, 5, 4);
        x.measure(0, 10007);
        Due.is("36 pitch", x.found(1, 0), 10000);
        Due.is("36 misfit", x.found(1, 1), 7);
        x.measure(0, 10013);
        Due.is("36 nearer above", x.found(1, 0), 10020);
        x.measure(4, 15000);
        Due.is("36 the greater share wins", x.found(1, 0), 12000);
        Due.is("36 its misfit", x.found(1, 1), 1987);
        Due.is("36 by another scale", x.found(0, 1), 4987);
        Due.is("36 pitch stays", x.pitch(8000), 8000);
    }

    static void foundAtTheEnds() {
        TwoKeys x = new TwoKeys();
        x.keys(24);
        x.measure(0, 400000);
        Due.is("36 above all", x.found(0, 0), 200000);
        Due.is("36 above all, misfit", x.found(0, 1), 200000);
        x.measure(0, 100);
        Due.is("36 below all", x.found(0, 0), 1000);
        Due.is("36 below all, misfit", x.found(0, 1), 900);
        x.measure(0, TwoKeys.NONE);
        x.measure(12, 400000);
        Due.is("36 octave", x.found(0, 0), 200000);
        Due.is("36 octave, misfit", x.found(0, 1), 0);
        x.measure(12, 2000);
        Due.is("36 octave below", x.found(0, 0), 1000);
        x.measure(12, 2041);
        Due.is("36 next", x.found(0, 0), 1020);
    }

    static void foundOfLikeOnes() {
        TwoKeys x = new TwoKeys();
        x.measure(0, 10010);
        Due.is("36 of like ones the least", x.found(0, 0), 10000);
        x.measure(1, 150010);
        Due.is("36 a wide plain", x.found(0, 0), 10020);
        Due.is("36 a wide plain, misfit", x.found(0, 1), 140000);
        x.measure(1, TwoKeys.NONE);
        x.measure(0, 100020);
        x.measure(3, 200000);
        Due.is("36 a plain to the end", x.found(0, 0), 100020);
        x.measure(0, 1000);
        Due.is("36 all is plain", x.found(0, 0), 1000);
    }

    static void foundWhereGoalsStandStill() {
        TwoKeys x = new TwoKeys();
        x.step(0, 0, 1, 999);
        x.measure(0, 150);
        // the goal is 150 from 149850 on
        Due.is("36 slow", x.found(0, 0), 149860);
        Due.is("36 slow, misfit", x.found(0, 1), 0);
        x.measure(0, 200);
        Due.is("36 slow, last", x.found(0, 0), 199800);
        x.measure(0, 100);
        Due.is("36 slow, first", x.found(0, 0), 99900);
    }

    static void foundRefusals() {
        TwoKeys x = new TwoKeys();
        x.keys(13);
        x.measure(12, 5000);
        x.keys(12);
        Due.is("36 nothing", x.found(0, 0), TwoKeys.STATE);
        for (int scale : NO_SCALES) {
            Due.is("36 scale " + scale, x.found(scale, 0), TwoKeys.UNKNOWN);
            Due.is("36 scale first " + scale, x.found(scale, 2), TwoKeys.UNKNOWN);
        }
        for (int what : NO_WHAT) Due.is("36 what first " + what, x.found(0, what), TwoKeys.BAD);
        x.keys(13);
        Due.is("36 there again", x.found(0, 0), 2500);
        for (int what : NO_WHAT) Due.is("36 what " + what, x.found(0, what), TwoKeys.BAD);
    }

    static void meant() {
        TwoKeys x = new TwoKeys();
        Due.is("37 nothing", x.meant(), TwoKeys.STATE);
        x.measure(0, 10000);
        Due.is("37 of like ones", x.meant(), 0);
        x.measure(7, 15000);
        for (int scale = 1; scale < 5; scale++) x.step(scale, 7, 3, 2);
        Due.is("37 of like ones again", x.meant(), 1);
        x.measure(4, 12656);
        x.step(2, 4, 5, 4);
        x.step(4, 4, 81, 64);
        Due.is("37 the last", x.meant(), 4);
        x.use(2);
        x.pitch(20000);
        Due.is("37 not by the scale in use", x.meant(), 4);
        x.measure(4, 12500);
        Due.is("37 the third", x.meant(), 2);
        x.keys(4);
        Due.is("37 silent", x.meant(), 0);
        x.measure(0, TwoKeys.NONE);
        Due.is("37 nothing there", x.meant(), TwoKeys.STATE);
    }

    static void added() {
        TwoKeys x = new TwoKeys();
        Due.is("38 nothing", x.added(0), TwoKeys.STATE);
        x.measure(3, 10000);
        Due.is("38 one", x.added(1), TwoKeys.STATE);
        for (int what : NO_WHAT) Due.is("38 what first " + what, x.added(what), TwoKeys.BAD);
        x.measure(5, 10000);
        Due.is("38 two like ones", x.added(0), 3);
        Due.is("38 two like ones, misfit", x.added(1), 0);
        x.measure(9, 11000);
        Due.is("38 the odd one", x.added(0), 9);
        x.measure(3, 10005);
        Due.is("38 still the odd one", x.added(0), 9);
        Due.is("38 misfit without it", x.added(1), 5);
        for (int what : NO_WHAT) Due.is("38 what " + what, x.added(what), TwoKeys.BAD);
        x.keys(9);
        Due.is("38 silent", x.added(0), 3);
        x.keys(5);
        Due.is("38 one there", x.added(0), TwoKeys.STATE);
    }

    /** Without a key the pitch is found anew, not kept from that of all keys. */
    static void addedByItsOwnPitch() {
        TwoKeys x = new TwoKeys();
        x.step(1, 0, 3, 1);
        x.step(1, 1, 3, 2);
        x.step(1, 2, 1, 1);
        x.measure(0, 30000);
        x.measure(1, 15000);
        x.measure(2, 20000);
        Due.is("38 meant", x.meant(), 1);
        Due.is("38 pitch with all", x.found(1, 0), 10000);
        // without 0: 15000 and 20000 by 3/2 and 1 are best at 10000, misfit 10000; without 2: 0
        Due.is("38 added", x.added(0), 2);
        Due.is("38 misfit", x.added(1), 0);
        x.measure(2, 10000);
        x.measure(0, 90000);
        Due.is("38 meant still", x.meant(), 1);
        Due.is("38 the pitch follows the greatest share", x.found(1, 0), 30000);
        Due.is("38 another pitch without it", x.added(0), 0);
        Due.is("38 misfit at that pitch", x.added(1), 0);
    }

    static void bentLater() {
        TwoKeys x = new TwoKeys();
        Due.is("39 nothing", x.bentLater(0, 0), TwoKeys.STATE);
        int[] wrong = {-1, 400001, Integer.MIN_VALUE, Integer.MAX_VALUE};
        for (int by : wrong) Due.is("39 by first " + by, x.bentLater(by, 0), TwoKeys.BAD);
        x.measure(0, 20007);
        Due.is("39 one key", x.bentLater(6, 0), 0);
        for (int key = 0; key < 12; key++) x.measure(key, 20000);
        Due.is("39 none", x.bentLater(0, 0), TwoKeys.NONE);
        x.measure(2, 20001);
        x.measure(4, 19990);
        x.measure(11, 20300);
        int[] due = {2, 4, 11, TwoKeys.NONE};
        for (int i = 0; i < 4; i++) Due.is("39 by 0, " + i, x.bentLater(0, i), due[i]);
        Due.is("39 by 1", x.bentLater(1, 0), 4);
        Due.is("39 by 9", x.bentLater(9, 1), 11);
        Due.is("39 by 10", x.bentLater(10, 0), 11);
        Due.is("39 by 299", x.bentLater(299, 0), 11);
        Due.is("39 by 300", x.bentLater(300, 0), TwoKeys.NONE);
        Due.is("39 most", x.bentLater(400000, 0), TwoKeys.NONE);
        Due.is("39 below", x.bentLater(0, -1), TwoKeys.NONE);
        Due.is("39 far below", x.bentLater(0, Integer.MIN_VALUE), TwoKeys.NONE);
        Due.is("39 far above", x.bentLater(0, Integer.MAX_VALUE), TwoKeys.NONE);
        for (int by : wrong) Due.is("39 by " + by, x.bentLater(by, 0), TwoKeys.BAD);
        x.pitch(1000);
        x.step(1, 11, 203, 200);
        Due.is("39 by the meant scale", x.bentLater(0, 2), TwoKeys.NONE);
        x.keys(3);
        Due.is("39 silent", x.bentLater(0, 1), TwoKeys.NONE);
        x.keys(12);
        x.measure(3, 20000);
        Due.is("39 bent now does not matter", x.bend(3, 9), 0);
        Due.is("39 as before", x.bentLater(0, 0), 2);
    }

    /** The meant scale stands between others that would find other pitches. */
    static void bentLaterByThePitchFound() {
        TwoKeys x = new TwoKeys();
        for (int scale = 0; scale < 5; scale++) {
            for (int step = 0; step < 12; step++) x.step(scale, step, 10 + scale * (step % 3), 10 + scale);
        }
        for (int step = 0; step < 12; step++) x.step(4, step, 1, 2);
        for (int key = 0; key < 9; key++) x.measure(key, 30000 * (10 + 2 * (key % 3)) / 12);
        x.measure(4, 30007);
        Due.is("37 between", x.meant(), 2);
        Due.is("39 of many the bent one", x.bentLater(6, 0), 4);
        Due.is("39 by 7", x.bentLater(7, 0), TwoKeys.NONE);
        Due.is("39 no other", x.bentLater(0, 1), TwoKeys.NONE);
        Due.is("38 the bent one", x.added(0), 4);
        Due.is("38 all others fit", x.added(1), 0);
        Due.is("39 not measured", x.bentLater(0, 2), TwoKeys.NONE);
    }

    static void count() {
        TwoKeys x = new TwoKeys();
        x.keys(24);
        x.strike(0, 23, 700);
        x.strike(22, 23, 700);
        x.bend(0, 1);
        x.bend(6, -1);
        x.bend(23, 4);
        x.bend(6, 0);
        x.note(0, 23, 0, 1);
        x.note(3, 0, 0, 1);
        x.note(3, 0, 0, 1);
        x.book(5);
        x.measure(0, 100);
        x.measure(23, 100);
        x.measure(7, 100);
        x.measure(7, TwoKeys.NONE);
        int[] all = {24, 22, 3, 2, 2, 2};
        for (int what = 0; what < 6; what++) Due.is("40 what " + what, x.count(what), all[what]);
        x.keys(22);
        int[] some = {22, 22, 3, 2, 1, 1};
        for (int what = 0; what < 6; what++) Due.is("40 silent " + what, x.count(what), some[what]);
        int[] wrong = {-1, 6, Integer.MIN_VALUE, Integer.MAX_VALUE};
        for (int what : wrong) Due.is("40 what " + what, x.count(what), TwoKeys.BAD);
    }
}
