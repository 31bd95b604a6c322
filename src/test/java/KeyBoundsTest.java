/** The document's first section and promises 1 to 17, each sentence that names a bound: both sides of it. */
public final class KeyBoundsTest {
    private static final int UNKNOWN = TwoKeys.UNKNOWN, BAD = TwoKeys.BAD, NONE = TwoKeys.NONE;

    public static void main(String[] args) {
        howManyKeys();
        keysOfARoom();
        keysComeAsTheyWereLeft();
        allElseStays();
        stringsAndTensions();
        firstStringsAndLengths();
        lengths();
        bends();
        strikingUnbends();
        toneIsCut();
        soundsLengthAndBentLong();
        pressedHard();
        sharersOfAString();
        scalesAndSteps();
        sharesOfAStep();
        pitches();
        goalWrapsAtTwelve();
        goalIsCutOnce();
        errorHasASign();
        errorAsLowAsARefusal();
        wrongIsOfSizes();
        tunedToTheEnds();
        tunedOfLikeOnes();
        tunedAlone();
        orderByLengths();
        orderOfThoseThatShare();
        worstOfLikeOnes();
        Due.end();
    }

    /** "KEYS 0 .. n - 1 (n 1 .. 24; 12 at first)"; "So many KEYS: how many there were. .. BAD." */
    static void howManyKeys() {
        TwoKeys x = new TwoKeys();
        Due.is("2 at first", x.count(0), 12);
        Due.is("2 none", x.keys(0), BAD);
        Due.is("2 too many", x.keys(25), BAD);
        Due.is("2 still twelve", x.count(0), 12);
        int was = 12;
        for (int n = 1; n <= 24; n++) {
            Due.is("2 keys " + n, x.keys(n), was);
            Due.is("2 count " + n, x.count(0), n);
            Due.is("2 the last key of " + n, x.about(n - 1, 1), 5000);
            Due.is("2 one behind it of " + n, x.about(n, 1), UNKNOWN);
            was = n;
        }
        Due.is("2 below 0", x.keys(-1), BAD);
        Due.is("2 still all", x.keys(1), 24);
    }

    /** "UNKNOWN: key (0 .. n - 1)": of each call that takes a key, whatever n is. */
    static void keysOfARoom() {
        for (int n = 1; n <= 24; n++) {
            TwoKeys x = new TwoKeys();
            x.keys(n);
            for (int key : new int[] {-1, n, 24}) {
                Due.is("3 of " + n + " key " + key, x.strike(key, 0, 5000), UNKNOWN);
                Due.is("5 of " + n + " key " + key, x.bend(key, 0), UNKNOWN);
                Due.is("6 of " + n + " key " + key, x.about(key, 0), UNKNOWN);
                Due.is("7 of " + n + " key " + key, x.pressed(key, 0), UNKNOWN);
                Due.is("15 of " + n + " key " + key, x.tune(key), UNKNOWN);
                Due.is("26 of " + n + " key " + key, x.lost(0, key), UNKNOWN);
                Due.is("29 of " + n + " from " + key, x.together(key, 0), UNKNOWN);
                Due.is("29 of " + n + " to " + key, x.together(0, key), UNKNOWN);
                Due.is("32 of " + n + " key " + key, x.group(6, 0, key), UNKNOWN);
                Due.is("34 of " + n + " key " + key, x.measure(key, 100), UNKNOWN);
            }
            for (int key : new int[] {0, n - 1}) {
                Due.is("3 of " + n + " key there " + key, x.strike(key, key, 5000), key);
                Due.is("5 of " + n + " key there " + key, x.bend(key, 0), 0);
                Due.is("6 of " + n + " key there " + key, x.about(key, 0), key);
                Due.is("7 of " + n + " key there " + key, x.pressed(key, 0), 8000);
                Due.is("15 of " + n + " key there " + key, x.tune(key), key < 12 ? 0 : 8064 - 16000);
                Due.is("26 of " + n + " key there " + key, x.lost(0, key), 0);
                Due.is("29 of " + n + " key there " + key, x.together(key, n - 1), 0);
                Due.is("32 of " + n + " key there " + key, x.group(1, 0, key), key);
                Due.is("34 of " + n + " key there " + key, x.measure(key, NONE), NONE);
            }
        }
    }

    /** "KEYS that come anew are as they were left": a key that goes keeps all that it had, and all keys do. */
    static void keysComeAsTheyWereLeft() {
        TwoKeys x = new TwoKeys();
        x.keys(24);
        for (int key = 0; key < 24; key++) {
            x.strike(key, 23 - key, 600 + key);
            x.bend(key, key - 12);
            x.measure(key, 1000 + key);
        }
        x.keys(1);
        x.keys(24);
        for (int key = 0; key < 24; key++) {
            Due.is("2 string left " + key, x.about(key, 0), 23 - key);
            Due.is("2 length left " + key, x.about(key, 1), 600 + key);
            Due.is("2 bent left " + key, x.about(key, 2), key - 12);
            Due.is("2 measured left " + key, x.measure(key, NONE), 1000 + key);
        }
        x.keys(12);
        x.tuneAll();
        x.setUp(6, 0);
        x.keys(13);
        Due.is("16 a key that is not there is not tuned", x.about(12, 2), 0);
        Due.is("33 nor set up", x.about(12, 0), 11);
        x.bend(12, 7);
        x.keys(12);
        x.tuneAll();
        x.keys(13);
        Due.is("16 nor bent back", x.about(12, 2), 7);
    }

    /** "All else stays". */
    static void allElseStays() {
        int[] before = Rooms.seen(Rooms.busy(13));
        TwoKeys x = Rooms.busy(13);
        for (int n : new int[] {1, 24, 12, 13}) x.keys(n);
        Due.holds("2 all else stays", java.util.Arrays.equals(Rooms.seen(x), before));
    }

    /** "STRINGS 0 .. 23 have a TENSION (100 .. 20000; 4000 at first)": strings are there whatever keys are. */
    static void stringsAndTensions() {
        TwoKeys x = new TwoKeys();
        x.keys(1);
        for (int string = 0; string < 24; string++) {
            Due.is("4 least of string " + string, x.tension(string, 100), 4000);
            Due.is("4 most of string " + string, x.tension(string, 20000), 100);
            Due.is("4 too little of string " + string, x.tension(string, 99), BAD);
            Due.is("4 too much of string " + string, x.tension(string, 20001), BAD);
            Due.is("4 kept of string " + string, x.tension(string, 4001 + string), 20000);
        }
        for (int string = 0; string < 24; string++) {
            Due.is("4 each its own " + string, x.tension(string, 4000), 4001 + string);
            Due.is("3 struck " + string, x.strike(0, string, 5000), Math.max(0, string - 1));
        }
        Due.is("4 string 24", x.tension(24, 4000), UNKNOWN);
        Due.is("4 string -1", x.tension(-1, 4000), UNKNOWN);
        Due.is("3 string 24", x.strike(0, 24, 5000), UNKNOWN);
        Due.is("3 string -1", x.strike(0, -1, 5000), UNKNOWN);
        Due.is("8 string 24", x.sharers(24), UNKNOWN);
        Due.is("8 string -1", x.sharers(-1), UNKNOWN);
        Due.is("25 string 24", x.heard(0, 24, 0), UNKNOWN);
        Due.is("25 string -1", x.heard(0, -1, 0), UNKNOWN);
    }

    /** "Each KEY strikes one STRING (KEY k STRING k at first) at a LENGTH (.. 5000 at first), .. BENT (.. 0 at first)". */
    static void firstStringsAndLengths() {
        TwoKeys x = new TwoKeys();
        x.keys(24);
        for (int key = 0; key < 24; key++) {
            Due.is("1 string " + key, x.about(key, 0), key);
            Due.is("1 length " + key, x.about(key, 1), 5000);
            Due.is("1 bent " + key, x.about(key, 2), 0);
            Due.is("1 sharers " + key, x.sharers(key), 1);
        }
    }

    /** "a LENGTH (500 .. 9999 ..)". */
    static void lengths() {
        TwoKeys x = new TwoKeys();
        Due.is("3 least", x.strike(0, 1, 500), 0);
        Due.is("3 least stands", x.about(0, 1), 500);
        Due.is("3 too short", x.strike(0, 2, 499), BAD);
        Due.is("3 most", x.strike(0, 3, 9999), 1);
        Due.is("3 most stands", x.about(0, 1), 9999);
        Due.is("3 too long", x.strike(0, 4, 10000), BAD);
        Due.is("3 kept string", x.about(0, 0), 3);
        Due.is("3 kept length", x.about(0, 1), 9999);
    }

    /** "may be BENT (-40 .. 40 ..)". */
    static void bends() {
        TwoKeys x = new TwoKeys();
        Due.is("5 most", x.bend(0, 40), 0);
        Due.is("5 too much", x.bend(0, 41), BAD);
        Due.is("5 least", x.bend(0, -40), 40);
        Due.is("5 too little", x.bend(0, -41), BAD);
        Due.is("5 stands", x.about(0, 2), -40);
        Due.is("40 bent", x.count(5), 1);
        Due.is("5 back", x.bend(0, 0), -40);
        Due.is("40 not bent", x.count(5), 0);
    }

    /** "A KEY strikes a STRING at a LENGTH, not BENT": even where it strikes as before. A refused one unbends not. */
    static void strikingUnbends() {
        TwoKeys x = new TwoKeys();
        x.bend(4, 33);
        Due.is("3 refused", x.strike(4, 4, 499), BAD);
        Due.is("3 bent still", x.about(4, 2), 33);
        Due.is("3 as before", x.strike(4, 4, 5000), 4);
        Due.is("3 not bent", x.about(4, 2), 0);
        Due.is("3 others", x.bend(3, 1), 0);
        x.strike(4, 3, 5000);
        Due.is("3 others stay bent", x.about(3, 2), 1);
    }

    /** "THE TONE of a KEY: its STRING's TENSION times 10000 by how long it sounds, cut." */
    static void toneIsCut() {
        TwoKeys x = new TwoKeys();
        Due.is("6 whole", x.about(0, 3), 8000);
        x.bend(0, 1);
        Due.is("6 7998.4 is cut", x.about(0, 3), 7998);
        x.bend(0, -1);
        Due.is("6 8001.6 is cut", x.about(0, 3), 8001);
        x.strike(0, 0, 9999);
        x.tension(0, 100);
        Due.is("6 100.01 is cut", x.about(0, 3), 100);
        x.bend(0, 2);
        Due.is("6 99.99 is cut", x.about(0, 3), 99);
    }

    /** "it sounds LENGTH and BENT long": the least tone and the greatest one. */
    static void soundsLengthAndBentLong() {
        TwoKeys x = new TwoKeys();
        x.strike(0, 0, 500);
        x.tension(0, 20000);
        Due.is("6 500 long", x.about(0, 3), 400000);
        x.bend(0, -40);
        Due.is("6 460 long", x.about(0, 3), 434782);
        x.bend(0, 40);
        Due.is("6 540 long", x.about(0, 3), 370370);
        x.tension(0, 100);
        x.strike(0, 0, 9999);
        x.bend(0, 40);
        Due.is("6 10039 long", x.about(0, 3), 99);
        Due.is("6 the length stays", x.about(0, 1), 9999);
    }

    /** "PRESSED hard by p (0 .. 20): TONE, and TONE times p by 1000, cut." */
    static void pressedHard() {
        TwoKeys x = new TwoKeys();
        x.strike(0, 0, 500);
        x.bend(0, -40);
        x.tension(0, 20000);
        Due.is("7 by 0", x.pressed(0, 0), 434782);
        Due.is("7 by 1", x.pressed(0, 1), 434782 + 434);
        Due.is("7 by 20", x.pressed(0, 20), 434782 + 8695);
        Due.is("7 by 21", x.pressed(0, 21), BAD);
        Due.is("7 by -1", x.pressed(0, -1), BAD);
        x.strike(0, 0, 9999);
        x.tension(0, 999);
        Due.is("7 999 by 1 is cut", x.pressed(0, 1), 999);
        x.tension(0, 1000);
        Due.is("7 1000 by 1", x.pressed(0, 1), 1001);
        x.tension(0, 100);
        x.bend(0, 40);
        Due.is("7 99 by 20 is cut", x.pressed(0, 20), 99 + 1);
    }

    /** "How many KEYS SHARE a STRING (each of them counted)": none, one, all. */
    static void sharersOfAString() {
        TwoKeys x = new TwoKeys();
        x.keys(24);
        for (int key = 0; key < 24; key++) x.strike(key, 23, 9000 - key);
        Due.is("8 all", x.sharers(23), 24);
        Due.is("8 none", x.sharers(0), 0);
        Due.is("40 one string is struck", x.count(1), 1);
        x.keys(1);
        Due.is("8 one", x.sharers(23), 1);
        x.strike(0, 0, 500);
        Due.is("8 none is there", x.sharers(23), 0);
        Due.is("8 the one that is", x.sharers(0), 1);
    }

    /** "SCALES 0 .. 4 have twelve STEPS 0 .. 11 ..; 1 by 1 at first". */
    static void scalesAndSteps() {
        TwoKeys x = new TwoKeys();
        for (int scale = 0; scale < 5; scale++) {
            for (int step = 0; step < 12; step += 11) {
                Due.is("11 above at first", x.share(scale, step, true), 1);
                Due.is("11 below at first", x.share(scale, step, false), 1);
                Due.is("10 each", x.step(scale, step, 3 + scale, 2 + step), 3 + scale > 4 * (2 + step) ? BAD : 1);
            }
            Due.is("12 used", x.use(scale), Math.max(0, scale - 1));
        }
        for (int scale : new int[] {-1, 5}) {
            Due.is("10 scale " + scale, x.step(scale, 0, 1, 1), UNKNOWN);
            Due.is("11 scale " + scale, x.share(scale, 0, true), UNKNOWN);
            Due.is("12 scale " + scale, x.use(scale), UNKNOWN);
            Due.is("35 scale " + scale, x.misfit(scale, 8000), UNKNOWN);
            Due.is("36 scale " + scale, x.found(scale, 0), UNKNOWN);
        }
        for (int step : new int[] {-1, 12}) {
            Due.is("10 step " + step, x.step(0, step, 1, 1), UNKNOWN);
            Due.is("11 step " + step, x.share(0, step, false), UNKNOWN);
        }
        Due.is("12 kept", x.use(0), 4);
        for (int scale = 0; scale < 5; scale++) Due.is("10 each its own", x.share(scale, 11, true), 3 + scale);
    }

    /** "a share above by below (1 .. 999 each, above no more than 4 times below ..)". */
    static void sharesOfAStep() {
        TwoKeys x = new TwoKeys();
        for (int below = 1; below <= 250; below++) {
            int most = Math.min(999, 4 * below);
            Due.is("10 four times " + below, x.step(0, 0, most, below), 1);
            Due.is("10 more than that " + below, x.step(0, 0, most + 1, below), BAD);
        }
        Due.is("10 kept above", x.share(0, 0, true), 999);
        Due.is("10 kept below", x.share(0, 0, false), 250);
        TwoKeys y = new TwoKeys();
        Due.is("10 least", y.step(0, 0, 1, 999), 1);
        Due.is("10 above 0", y.step(0, 0, 0, 999), BAD);
        Due.is("10 below 0", y.step(0, 0, 1, 0), BAD);
        Due.is("10 both 0", y.step(0, 0, 0, 0), BAD);
        Due.is("10 both below 0", y.step(0, 0, -4, -1), BAD);
        Due.is("10 most", y.step(0, 1, 999, 999), 1);
        Due.is("10 above 1000", y.step(0, 1, 1000, 999), BAD);
        Due.is("10 below 1000", y.step(0, 1, 999, 1000), BAD);
        Due.is("10 kept least", y.share(0, 0, false), 999);
        Due.is("10 kept most", y.share(0, 1, true), 999);
    }

    /** "A PITCH (1000 .. 200000; 8000 at first) is that of KEY 0." */
    static void pitches() {
        TwoKeys x = new TwoKeys();
        Due.is("13 at first", x.about(0, 4), 8000);
        Due.is("13 least", x.pitch(1000), 8000);
        Due.is("13 too low", x.pitch(999), BAD);
        Due.is("13 goal of key 0", x.about(0, 4), 1000);
        Due.is("13 most", x.pitch(200000), 1000);
        Due.is("13 too high", x.pitch(200001), BAD);
        Due.is("13 goal of key 0 again", x.about(0, 4), 200000);
    }

    /** "PITCH times 2 to the k by 12 (cut), times above of STEP k modulo 12". */
    static void goalWrapsAtTwelve() {
        TwoKeys x = new TwoKeys();
        x.keys(24);
        for (int step = 0; step < 12; step++) x.step(0, step, 100 + step, 100);
        for (int key = 0; key < 24; key++) {
            Due.is("6 goal of key " + key, x.about(key, 4), 80 * (100 + key % 12) * (key < 12 ? 1 : 2));
        }
        x.step(0, 0, 4, 1);
        x.step(0, 11, 999, 250);
        x.pitch(200000);
        Due.is("6 greatest goal", x.about(12, 4), 1600000);
        Due.is("6 the last key's", x.about(23, 4), 1598400);
        x.step(0, 0, 1, 999);
        x.pitch(1000);
        Due.is("6 least goal", x.about(0, 4), 1);
        Due.is("6 an octave above it", x.about(12, 4), 2);
    }

    /** ".. by its below, cut.": only at last. */
    static void goalIsCutOnce() {
        TwoKeys x = new TwoKeys();
        x.keys(24);
        x.step(0, 0, 1, 2);
        x.pitch(1001);
        Due.is("6 500.5 is cut", x.about(0, 4), 500);
        Due.is("6 doubled ahead of the cut", x.about(12, 4), 1001);
        x.step(0, 0, 3, 2);
        Due.is("6 times above ahead of by below", x.about(0, 4), 1501);
        x.step(0, 0, 998, 999);
        x.pitch(200000);
        Due.is("6 199799.8 is cut", x.about(0, 4), 199799);
        Due.is("6 399599.6 is cut", x.about(12, 4), 399599);
    }

    /** "THE ERROR of a KEY: its TONE less its GOAL by THE SCALE in use (0 at first)." */
    static void errorHasASign() {
        TwoKeys x = new TwoKeys();
        x.step(0, 1, 3, 2);
        x.step(0, 2, 1, 2);
        x.step(4, 1, 1, 4);
        Due.is("6 none", x.about(0, 5), 0);
        Due.is("6 below 0", x.about(1, 5), -4000);
        Due.is("6 above 0", x.about(2, 5), 4000);
        x.use(4);
        Due.is("6 by the scale in use", x.about(1, 5), 6000);
    }

    /** "its TONE less its GOAL": a true ERROR may be the number of a refusal, or below all of them. */
    static void errorAsLowAsARefusal() {
        TwoKeys x = new TwoKeys();
        for (int low : new int[] {UNKNOWN, BAD, TwoKeys.STATE, TwoKeys.FULL, NONE, NONE - 1}) {
            x.bend(0, 0);
            x.pitch(8000 - low);
            Due.is("6 as low as " + low, x.about(0, 5), low);
            // bent by -40 it sounds 4960 long
            x.pitch(40000000 / 4960 - low);
            Due.is("15 as low as " + low, x.tune(0), low);
            Due.is("15 as low as " + low + ", bent", x.about(0, 2), -40);
        }
        x.keys(24);
        x.strike(23, 0, 9999);
        x.tension(0, 100);
        x.step(0, 11, 4, 1);
        x.pitch(200000);
        Due.is("6 the lowest", x.about(23, 5), 100 - 1600000);
        x.bend(23, 40);
        Due.is("6 the lowest, bent", x.about(23, 5), 99 - 1600000);
        Due.is("15 the lowest", x.tune(23), 100 - 1600000);
    }

    /** "WRONG are all sizes of ERRORS together." */
    static void wrongIsOfSizes() {
        TwoKeys x = new TwoKeys();
        Due.is("14 nothing", x.wrong(), 0);
        x.step(0, 1, 3, 2);
        x.step(0, 2, 1, 2);
        Due.is("14 signs do not matter", x.wrong(), 8000);
        x.keys(1);
        Due.is("14 one key", x.wrong(), 0);
        x.keys(2);
        Due.is("14 two keys", x.wrong(), 4000);
        x.keys(24);
        for (int step = 0; step < 12; step++) x.step(0, step, 4, 1);
        x.pitch(200000);
        for (int string = 0; string < 24; string++) x.tension(string, 100);
        Due.is("14 the greatest", x.wrong(), 12 * (800000 - 200) + 12 * (1600000 - 200));
    }

    /** "it is BENT so that the size of its ERROR is least": as far as a key may be bent, and no farther. */
    static void tunedToTheEnds() {
        TwoKeys x = new TwoKeys();
        x.strike(0, 0, 5040);
        x.strike(1, 1, 5041);
        x.strike(2, 2, 4960);
        x.strike(3, 3, 4959);
        Due.is("15 just within", x.tune(0), 0);
        Due.is("15 just within, bent", x.about(0, 2), -40);
        Due.is("15 just beyond", x.tune(1), -2);
        Due.is("15 just beyond, bent", x.about(1, 2), -40);
        Due.is("15 just within above", x.tune(2), 0);
        Due.is("15 just within above, bent", x.about(2, 2), 40);
        Due.is("15 just beyond above", x.tune(3), 1);
        Due.is("15 just beyond above, bent", x.about(3, 2), 40);
        for (int by = -40; by <= 40; by++) {
            x.strike(4, 4, 5000 - by);
            Due.is("15 by " + by, x.tune(4), 0);
            Due.is("15 by " + by + ", bent", x.about(4, 2), by);
        }
        x.strike(4, 4, 500);
        x.strike(5, 5, 9999);
        Due.is("15 the shortest", x.tune(4), 40000000 / 540 - 8000);
        Due.is("15 the longest", x.tune(5), 40000000 / 9959 - 8000);
    }

    /** "of like ones the least size of BENT": whatever it was bent before. */
    static void tunedOfLikeOnes() {
        TwoKeys x = new TwoKeys();
        x.tension(0, 100);
        x.strike(0, 0, 9999);
        x.pitch(1000);
        for (int before : new int[] {-40, -1, 0, 1, 40}) {
            x.step(0, 0, 1, 10);
            x.bend(0, before);
            // 100 from 9901 to 10000 long: bent by -40 .. 1
            Due.is("15 like ones", x.tune(0), 0);
            Due.is("15 like ones, 0", x.about(0, 2), 0);
            x.step(0, 0, 99, 999);
            // 99 from 10001 long on: bent by 2 .. 40
            Due.is("15 like ones above", x.tune(0), 0);
            Due.is("15 like ones above, 2", x.about(0, 2), 2);
        }
        x.strike(0, 0, 9930);
        x.step(0, 0, 101, 999);
        // 101 up to 9900 long: bent by -40 .. -30
        Due.is("15 like ones below", x.tune(0), 0);
        Due.is("15 like ones below, -30", x.about(0, 2), -30);
        // 8001 at 4999, 8000 at 5000, 7998 at 5001: 7999 is missed by 1 at two lengths
        TwoKeys y = new TwoKeys();
        y.pitch(7999);
        y.strike(0, 0, 5001);
        Due.is("15 like far above and below", y.tune(0), -1);
        Due.is("15 like far, 0", y.about(0, 2), 0);
        y.strike(0, 0, 4999);
        Due.is("15 like far again", y.tune(0), 1);
        Due.is("15 like far again, 1", y.about(0, 2), 1);
    }

    /** "(Another KEY is not touched.)": nor one that shares its string, nor the string. */
    static void tunedAlone() {
        TwoKeys x = new TwoKeys();
        x.strike(0, 0, 5010);
        x.strike(1, 0, 4990);
        x.bend(1, 7);
        Due.is("15 tuned", x.tune(0), 0);
        Due.is("15 bent", x.about(0, 2), -10);
        Due.is("15 its length stays", x.about(0, 1), 5010);
        Due.is("15 the sharer stays", x.about(1, 2), 7);
        Due.is("15 the tension stays", x.tension(0, 4000), 4000);
        Due.is("15 refused", x.tune(12), UNKNOWN);
        Due.is("40 two are bent", x.count(5), 2);
        Due.is("16 all", x.tuneAll(), 0);
        Due.is("16 the sharer too", x.about(1, 2), 10);
        x.keys(1);
        x.bend(0, 0);
        Due.is("16 one key", x.tuneAll(), 0);
        Due.is("16 one key, bent", x.about(0, 2), -10);
    }

    /** "THE ORDER holds, if of each two KEYS that SHARE a STRING the lower one sounds longer." */
    static void orderByLengths() {
        TwoKeys x = new TwoKeys();
        x.keys(24);
        x.strike(0, 9, 5001);
        x.strike(23, 9, 4999);
        Due.is("9 falls by one", x.order(), 1);
        x.bend(0, -1);
        Due.is("9 like ones", x.order(), 0);
        x.bend(9, -1);
        Due.is("9 still like ones of 9 and 23", x.order(), 0);
        x.bend(23, -1);
        Due.is("9 falls again", x.order(), 1);
        x.bend(23, 1);
        Due.is("9 the last is longer", x.order(), 0);
        x.keys(23);
        Due.is("9 without the last", x.order(), 1);
    }

    /** "of each two KEYS that SHARE a STRING": others do not matter; with one key there are none. */
    static void orderOfThoseThatShare() {
        TwoKeys x = new TwoKeys();
        x.strike(0, 0, 500);
        x.strike(1, 1, 9999);
        Due.is("9 apart", x.order(), 1);
        x.strike(1, 0, 9999);
        Due.is("9 together", x.order(), 0);
        x.keys(1);
        Due.is("9 alone", x.order(), 1);
        TwoKeys y = new TwoKeys();
        for (int key = 0; key < 12; key++) y.strike(key, 0, 9000 - 10 * key);
        Due.is("9 all on one", y.order(), 1);
        y.strike(6, 0, 8930);
        Due.is("9 two neighbours are like long", y.order(), 0);
    }

    /** "The KEY with the greatest size of its ERROR, of like ones the least." */
    static void worstOfLikeOnes() {
        TwoKeys x = new TwoKeys();
        Due.is("17 none is wrong", x.worst(), 0);
        x.step(0, 1, 9, 8);
        Due.is("17 the second alone", x.worst(), 1);
        x.step(0, 0, 9, 8);
        Due.is("17 of the first two the first", x.worst(), 0);
        x.keys(2);
        Due.is("17 of two keys", x.worst(), 0);
        x.keys(12);
        x.step(0, 11, 1, 2);
        Due.is("17 the last", x.worst(), 11);
        x.step(0, 10, 3, 2);
        Due.is("17 of like sizes the least", x.worst(), 10);
        x.keys(10);
        Due.is("17 of those there", x.worst(), 0);
        x.keys(24);
        Due.is("17 an octave above", x.worst(), 22);
        x.keys(1);
        Due.is("17 of one", x.worst(), 0);
    }
}
