/** The document's fourth section and promises 34 to 40, each sentence that names a bound: both sides of it. */
public final class OldBoundsTest {
    private static final int UNKNOWN = TwoKeys.UNKNOWN, BAD = TwoKeys.BAD, STATE = TwoKeys.STATE, NONE = TwoKeys.NONE;

    public static void main(String[] args) {
        tonesMeasured();
        noMoreMeasured();
        nothingMeasured();
        silentDoesNotCount();
        misfitAtPitches();
        misfitOfGoals();
        foundFromLeastToMost();
        foundByTwenty();
        foundOfLikeOnes();
        foundIsOfEachScale();
        meantOfLikeOnes();
        twoAtLeast();
        addedOfLikeOnes();
        addedForTheMeantScale();
        fartherThanSoMuch();
        soMuchIsBounded();
        bentLaterNumbers();
        oldOneChangesNothing();
        countsOfNothing();
        countsOfAll();
        Due.end();
    }

    /** "some TONES are MEASURED (100 .. 400000; none at first)". */
    static void tonesMeasured() {
        TwoKeys x = new TwoKeys();
        x.keys(24);
        for (int key = 0; key < 24; key++) {
            Due.is("34 none at first " + key, x.measure(key, 99), BAD);
            Due.is("34 least " + key, x.measure(key, 100), NONE);
            Due.is("34 too low " + key, x.measure(key, 99), BAD);
            Due.is("34 most " + key, x.measure(key, 400000), 100);
            Due.is("34 too high " + key, x.measure(key, 400001), BAD);
            Due.is("34 each its own " + key, x.measure(key, 1000 + key), 400000);
            Due.is("40 measured " + key, x.count(4), key + 1);
        }
        for (int key = 0; key < 24; key++) Due.is("34 stands " + key, x.measure(key, 100), 1000 + key);
        Due.is("34 key 24", x.measure(24, 100), UNKNOWN);
        Due.is("34 key -1", x.measure(-1, 100), UNKNOWN);
        Due.is("34 key 24, too low", x.measure(24, 99), UNKNOWN);
        Due.is("34 key 24, none", x.measure(24, NONE), UNKNOWN);
    }

    /** "A TONE is MEASURED (NONE: no more): what was (NONE)." */
    static void noMoreMeasured() {
        TwoKeys x = new TwoKeys();
        Due.is("34 none of none", x.measure(0, NONE), NONE);
        Due.is("40 none", x.count(4), 0);
        Due.is("34 one", x.measure(0, 8000), NONE);
        for (int near : new int[] {NONE - 1, NONE + 1, UNKNOWN, BAD, STATE, TwoKeys.FULL, 0, -1}) {
            Due.is("34 tone " + near, x.measure(0, near), BAD);
        }
        Due.is("40 one", x.count(4), 1);
        Due.is("34 no more", x.measure(0, NONE), 8000);
        Due.is("40 no more", x.count(4), 0);
        Due.is("36 no more", x.found(0, 0), STATE);
        Due.is("34 anew", x.measure(0, 8001), NONE);
    }

    /** "STATE: nothing is MEASURED." and whatever else is asked of nothing. */
    static void nothingMeasured() {
        TwoKeys x = new TwoKeys();
        Due.is("35 nothing", x.misfit(0, 8000), 0);
        Due.is("35 nothing, the last scale and pitch", x.misfit(4, 200000), 0);
        for (int scale = 0; scale < 5; scale++) {
            Due.is("36 pitch of nothing", x.found(scale, 0), STATE);
            Due.is("36 misfit of nothing", x.found(scale, 1), STATE);
        }
        Due.is("36 what ahead of state", x.found(0, 2), BAD);
        Due.is("36 what below, ahead of state", x.found(0, -1), BAD);
        Due.is("36 scale ahead of both", x.found(5, 2), UNKNOWN);
        Due.is("37 nothing", x.meant(), STATE);
        Due.is("38 nothing", x.added(0), STATE);
        Due.is("38 misfit of nothing", x.added(1), STATE);
        Due.is("38 what ahead of state", x.added(2), BAD);
        Due.is("38 what below, ahead of state", x.added(-1), BAD);
        Due.is("39 nothing", x.bentLater(0, 0), STATE);
        Due.is("39 nothing, most", x.bentLater(400000, 0), STATE);
        Due.is("39 nothing, no i", x.bentLater(0, -1), STATE);
        Due.is("39 by ahead of state", x.bentLater(-1, 0), BAD);
        Due.is("39 by above, ahead of state", x.bentLater(400001, 0), BAD);
        Due.is("40 nothing", x.count(4), 0);
        x.measure(11, 100);
        Due.is("36 one is enough", x.found(0, 1), 900);
        Due.is("37 one is enough", x.meant(), 0);
        Due.is("39 one is enough", x.bentLater(0, 0), 11);
    }

    /** "what is MEASURED of it does not count": of a key that is not there. */
    static void silentDoesNotCount() {
        TwoKeys x = new TwoKeys();
        x.keys(24);
        x.measure(23, 50000);
        x.measure(11, 20000);
        x.measure(10, 20000);
        Due.is("40 there", x.count(4), 3);
        Due.is("35 there", x.misfit(0, 20000), 10000);
        x.keys(23);
        Due.is("40 silent", x.count(4), 2);
        Due.is("35 silent", x.misfit(0, 20000), 0);
        Due.is("36 silent", x.found(0, 1), 0);
        Due.is("39 silent", x.bentLater(0, 0), NONE);
        Due.is("38 silent", x.added(0), 10);
        x.keys(11);
        Due.is("38 one is left", x.added(0), STATE);
        Due.is("36 one is left", x.found(0, 0), 20000);
        x.keys(10);
        Due.is("36 none is left", x.found(0, 0), STATE);
        Due.is("37 none is left", x.meant(), STATE);
        Due.is("39 none is left", x.bentLater(0, 0), STATE);
        Due.is("35 none is left", x.misfit(0, 20000), 0);
        x.keys(24);
        Due.is("40 there anew", x.count(4), 3);
        Due.is("35 there anew", x.misfit(0, 20000), 10000);
        Due.is("38 there anew", x.added(0), 23);
    }

    /** "THE MISFIT of a SCALE at a PITCH": each from 1000 to 200000, not by 20. */
    static void misfitAtPitches() {
        TwoKeys x = new TwoKeys();
        x.measure(0, 8000);
        Due.is("35 pitch 999", x.misfit(0, 999), BAD);
        Due.is("35 pitch 1000", x.misfit(0, 1000), 7000);
        Due.is("35 pitch 1001", x.misfit(0, 1001), 6999);
        Due.is("35 pitch 199999", x.misfit(0, 199999), 191999);
        Due.is("35 pitch 200000", x.misfit(0, 200000), 192000);
        Due.is("35 pitch 200001", x.misfit(0, 200001), BAD);
        Due.is("35 no scale, no pitch", x.misfit(5, 999), UNKNOWN);
        Due.is("35 no scale below, no pitch", x.misfit(-1, 200001), UNKNOWN);
        Due.is("35 the last scale", x.misfit(4, 8001), 1);
        Due.is("35 the pitch stays", x.about(0, 4), 8000);
    }

    /** "how far GOALS are from what is MEASURED, all such KEYS together": above and below, cut goals, wrapped steps. */
    static void misfitOfGoals() {
        TwoKeys x = new TwoKeys();
        x.keys(24);
        x.step(2, 11, 1, 2);
        x.measure(11, 500);
        Due.is("35 a cut goal", x.misfit(2, 1001), 0);
        x.measure(23, 1000);
        Due.is("35 an octave above", x.misfit(2, 1001), 1);
        x.measure(0, 1002);
        Due.is("35 below and above", x.misfit(2, 1001), 2);
        Due.is("35 another scale", x.misfit(0, 1001), 501 + 1002 + 1);
        x.use(2);
        x.bend(11, 40);
        Due.is("35 whatever is in use or bent", x.misfit(2, 1001), 2);
        for (int key = 0; key < 24; key++) x.measure(key, 100);
        for (int step = 0; step < 12; step++) x.step(2, step, 4, 1);
        Due.is("35 the greatest", x.misfit(2, 200000), 12 * (800000 - 100) + 12 * (1600000 - 100));
    }

    /** "the PITCH from 1000 to 200000". */
    static void foundFromLeastToMost() {
        TwoKeys x = new TwoKeys();
        int[] tones = {100, 999, 1000, 1009, 1010, 1011, 199989, 199990, 199991, 200000, 200001, 400000};
        int[] due = {1000, 1000, 1000, 1000, 1000, 1020, 199980, 199980, 200000, 200000, 200000, 200000};
        for (int i = 0; i < tones.length; i++) {
            x.measure(0, tones[i]);
            Due.is("36 pitch of " + tones[i], x.found(0, 0), due[i]);
            Due.is("36 misfit of " + tones[i], x.found(0, 1), Math.abs(due[i] - tones[i]));
        }
        x.measure(0, NONE);
        x.keys(24);
        x.step(0, 0, 4, 1);
        x.measure(12, 400000);
        Due.is("36 eight times", x.found(0, 0), 50000);
        x.measure(12, 100);
        Due.is("36 eight times, far below", x.found(0, 1), 7900);
        x.step(0, 0, 1, 999);
        x.measure(12, 400);
        Due.is("36 a small share", x.found(0, 0), 199800);
        x.measure(12, 401);
        Due.is("36 a small share, out of reach", x.found(0, 0), 199800);
        Due.is("36 a small share, missed by one", x.found(0, 1), 1);
    }

    /** "by 20": from 1000 on. */
    static void foundByTwenty() {
        TwoKeys x = new TwoKeys();
        for (int tone = 50000; tone <= 50060; tone++) {
            x.measure(7, tone);
            int due = (tone + 9) / 20 * 20;
            Due.is("36 pitch of " + tone, x.found(3, 0), due);
            Due.is("36 misfit of " + tone, x.found(3, 1), Math.abs(due - tone));
        }
    }

    /** "of least MISFIT, of like ones the least." */
    static void foundOfLikeOnes() {
        TwoKeys x = new TwoKeys();
        x.measure(0, 1000);
        x.measure(1, 200000);
        Due.is("36 all pitches are like ones", x.found(0, 0), 1000);
        Due.is("36 all pitches, misfit", x.found(0, 1), 199000);
        x.measure(0, 1001);
        Due.is("36 all but the first", x.found(0, 0), 1020);
        x.measure(0, 199980);
        Due.is("36 the last two", x.found(0, 0), 199980);
        x.measure(0, 400000);
        Due.is("36 the last alone", x.found(0, 0), 200000);
        x.measure(0, 100);
        x.measure(1, 100);
        Due.is("36 the first alone", x.found(0, 0), 1000);
        x.measure(0, 10010);
        x.measure(1, 10010);
        Due.is("36 ten below and ten above", x.found(0, 0), 10000);
        Due.is("36 ten twice", x.found(0, 1), 20);
        x.step(0, 0, 1, 999);
        x.measure(0, 100);
        x.measure(1, NONE);
        Due.is("36 a goal that stands still", x.found(0, 0), 99900);
        x.measure(0, 101);
        Due.is("36 a goal that stands still, next", x.found(0, 0), 100900);
    }

    /** "FOUND for a SCALE": each has its own; "(what = 0), its MISFIT (1)". */
    static void foundIsOfEachScale() {
        TwoKeys x = new TwoKeys();
        x.measure(0, 60000);
        for (int scale = 0; scale < 5; scale++) x.step(scale, 0, 1 + scale % 4, 1);
        int[] due = {60000, 30000, 20000, 15000, 60000};
        for (int scale = 0; scale < 5; scale++) {
            Due.is("36 pitch of scale " + scale, x.found(scale, 0), due[scale]);
            Due.is("36 misfit of scale " + scale, x.found(scale, 1), 0);
            Due.is("36 no more to tell of scale " + scale, x.found(scale, 2), BAD);
            Due.is("36 nor less of scale " + scale, x.found(scale, -1), BAD);
        }
    }

    /** "THE MEANT SCALE: that of least MISFIT FOUND, of like ones the least." */
    static void meantOfLikeOnes() {
        TwoKeys x = new TwoKeys();
        x.measure(0, 20000);
        x.measure(1, 30000);
        Due.is("37 all are like", x.meant(), 0);
        for (int scale = 4; scale >= 0; scale--) {
            x.step(scale, 1, 3, 2);
            Due.is("37 scale " + scale + " and those above it", x.meant(), scale);
        }
        x.step(0, 1, 301, 200);
        Due.is("37 the first fits no more", x.meant(), 1);
        x.measure(1, 30100);
        Due.is("37 the first fits best", x.meant(), 0);
        x.measure(1, 30050);
        Due.is("37 fifty below and fifty above", x.meant(), 0);
    }

    /** "(if 2 at least are MEASURED)"; "STATE: fewer than 2 are MEASURED." */
    static void twoAtLeast() {
        TwoKeys x = new TwoKeys();
        x.measure(4, 20000);
        Due.is("38 one", x.added(0), STATE);
        Due.is("38 one, misfit", x.added(1), STATE);
        Due.is("38 one, what", x.added(2), BAD);
        x.measure(11, 30000);
        Due.is("38 two", x.added(0), 4);
        Due.is("38 two, misfit", x.added(1), 0);
        Due.is("38 two, what", x.added(2), BAD);
        Due.is("38 two, what below", x.added(-1), BAD);
        x.keys(11);
        Due.is("38 one is silent", x.added(0), STATE);
        x.keys(12);
        x.measure(4, NONE);
        Due.is("38 one is no more", x.added(0), STATE);
        x.measure(4, 20000);
        Due.is("38 two anew", x.added(0), 4);
    }

    /** "without which the MISFIT FOUND .. is least; of like ones the least". */
    static void addedOfLikeOnes() {
        TwoKeys x = new TwoKeys();
        x.keys(24);
        for (int key = 0; key < 12; key++) x.measure(key, 20000);
        Due.is("38 all fit", x.added(0), 0);
        Due.is("38 all fit, misfit", x.added(1), 0);
        x.measure(11, 20100);
        Due.is("38 the last", x.added(0), 11);
        x.measure(7, 20100);
        Due.is("38 of two like ones the least", x.added(0), 7);
        Due.is("38 of two like ones, misfit", x.added(1), 100);
        x.measure(9, 19899);
        Due.is("38 below by more", x.added(0), 9);
        Due.is("38 below by more, misfit", x.added(1), 200);
        x.measure(23, 40102);
        Due.is("38 key 23", x.added(0), 23);
        Due.is("38 key 23, misfit", x.added(1), 301);
        x.measure(0, NONE);
        x.measure(9, NONE);
        x.measure(7, NONE);
        x.measure(11, NONE);
        Due.is("38 only those measured", x.added(0), 23);
        x.measure(23, NONE);
        Due.is("38 the least of those measured", x.added(0), 1);
    }

    /** "for THE MEANT SCALE": that of all keys, though without key 1 another scale would fit all others. */
    static void addedForTheMeantScale() {
        TwoKeys x = new TwoKeys();
        x.step(1, 1, 3, 2);
        x.step(1, 2, 101, 100);
        x.measure(0, 20000);
        x.measure(1, 30000);
        x.measure(2, 20000);
        Due.is("37 the second", x.meant(), 1);
        Due.is("36 misfit by the second", x.found(1, 1), 200);
        Due.is("36 misfit by the first", x.found(0, 1), 10000);
        Due.is("38 by the second", x.added(0), 2);
        Due.is("38 by the second, misfit", x.added(1), 0);
        x.measure(3, 20300);
        // without 3 key 2 is still missed by 200; without 2 key 3 by 300
        Due.is("37 the second still", x.meant(), 1);
        Due.is("38 not key 1, without which 300 by the first", x.added(0), 3);
        Due.is("38 misfit", x.added(1), 200);
    }

    /** "a KEY whose MEASURED TONE is farther from its GOAL (..) than so much". */
    static void fartherThanSoMuch() {
        TwoKeys x = new TwoKeys();
        x.keys(24);
        for (int key = 0; key < 12; key++) x.measure(key, 20000);
        x.measure(3, 20050);
        x.measure(5, 19950);
        x.measure(23, 40050);
        for (int key : new int[] {3, 5, 23}) {
            int i = key == 3 ? 0 : key == 5 ? 1 : 2;
            Due.is("39 by 0, key " + key, x.bentLater(0, i), key);
            Due.is("39 by 49, key " + key, x.bentLater(49, i), key);
            Due.is("39 by 50, key " + key, x.bentLater(50, i), NONE);
        }
        Due.is("39 no more", x.bentLater(0, 3), NONE);
        x.measure(23, 40051);
        Due.is("39 by 50 now", x.bentLater(50, 0), 23);
        Due.is("39 by 51 now", x.bentLater(51, 0), NONE);
    }

    /** "by more than so much (0 .. 400000)". */
    static void soMuchIsBounded() {
        TwoKeys x = new TwoKeys();
        x.keys(24);
        for (int scale = 0; scale < 5; scale++) x.step(scale, 11, 4, 1);
        for (int key = 0; key < 11; key++) x.measure(key, 200000);
        x.measure(23, 100);
        Due.is("36 the many win", x.found(0, 0), 200000);
        Due.is("36 misfit of the one", x.found(0, 1), 1600000 - 100);
        Due.is("39 by 400000", x.bentLater(400000, 0), 23);
        Due.is("39 by 400001", x.bentLater(400001, 0), BAD);
        Due.is("39 by 0", x.bentLater(0, 0), 23);
        Due.is("39 by -1", x.bentLater(-1, 0), BAD);
        x.measure(23, NONE);
        x.measure(11, 400000);
        Due.is("39 just 400000 from its goal", x.bentLater(400000, 0), NONE);
        Due.is("39 farther than 399999", x.bentLater(399999, 0), 11);
        x.measure(11, 399999);
        Due.is("39 400001 from its goal", x.bentLater(400000, 0), 11);
    }

    /** "The i-th KEY ..; NONE." */
    static void bentLaterNumbers() {
        TwoKeys x = new TwoKeys();
        x.keys(24);
        for (int step = 0; step < 12; step++) {
            for (int scale = 0; scale < 5; scale++) x.step(scale, step, 1, 2);
        }
        for (int key = 0; key < 24; key++) x.measure(key, 400000);
        Due.is("36 out of reach", x.found(0, 0), 200000);
        for (int i = 0; i < 24; i++) Due.is("39 all " + i, x.bentLater(0, i), i);
        Due.is("39 behind all", x.bentLater(0, 24), NONE);
        Due.is("39 ahead of all", x.bentLater(0, -1), NONE);
        Due.is("39 the least i", x.bentLater(0, Integer.MIN_VALUE), NONE);
        Due.is("39 the greatest i", x.bentLater(0, Integer.MAX_VALUE), NONE);
        Due.is("39 the lower ones", x.bentLater(200000, 11), 11);
        Due.is("39 the lower ones alone", x.bentLater(200000, 12), NONE);
        Due.is("39 none is so far", x.bentLater(300000, 0), NONE);
        x.measure(0, NONE);
        Due.is("39 only those measured", x.bentLater(0, 0), 1);
        x.keys(23);
        Due.is("39 the last that is there", x.bentLater(0, 21), 22);
        Due.is("39 one behind it", x.bentLater(0, 22), NONE);
    }

    /** What is asked of an old one changes neither pitch nor scale nor what is measured. */
    static void oldOneChangesNothing() {
        int[] before = Rooms.seen(Rooms.busy(24));
        TwoKeys x = Rooms.busy(24);
        x.misfit(1, 5000);
        x.found(1, 0);
        x.found(2, 1);
        x.meant();
        x.added(0);
        x.added(1);
        x.bentLater(0, 0);
        Due.holds("35 to 39 change nothing", java.util.Arrays.equals(Rooms.seen(x), before));
    }

    /** "0 KEYS, 1 STRINGS that are struck, 2 NOTES .., 3 PIECES .., 4 KEYS that are MEASURED, 5 KEYS that are BENT." */
    static void countsOfNothing() {
        TwoKeys x = new TwoKeys();
        x.keys(1);
        int[] due = {1, 1, 0, 0, 0, 0};
        for (int what = 0; what < 6; what++) Due.is("40 least of " + what, x.count(what), due[what]);
        Due.is("40 what -1", x.count(-1), BAD);
        Due.is("40 what 6", x.count(6), BAD);
        x.book(15);
        Due.is("40 pieces without notes", x.count(3), 4);
        x.note(0, 23, 0, 1);
        Due.is("40 notes of silent keys", x.count(2), 1);
    }

    /** As much of each as there can be. */
    static void countsOfAll() {
        TwoKeys x = new TwoKeys();
        x.keys(24);
        for (int key = 0; key < 24; key++) {
            x.bend(key, key % 2 == 0 ? 1 : -1);
            x.measure(key, 100);
        }
        for (int i = 0; i < 160; i++) x.note(i / 40, 0, 0, 1);
        x.book(15);
        int[] due = {24, 24, 160, 4, 24, 24};
        for (int what = 0; what < 6; what++) Due.is("40 most of " + what, x.count(what), due[what]);
        x.keys(12);
        int[] half = {12, 12, 160, 4, 12, 12};
        for (int what = 0; what < 6; what++) Due.is("40 half of " + what, x.count(what), half[what]);
    }
}
