/** Promises 10 to 17: scales. */
public final class ScalesTest {
    private static final int[] NO_SCALES = {-1, 5, Integer.MIN_VALUE, Integer.MAX_VALUE};
    private static final int[] NO_STEPS = {-1, 12, Integer.MIN_VALUE, Integer.MAX_VALUE};

    public static void main(String[] args) {
        step();
        share();
        use();
        pitch();
        wrong();
        tune();
        tuneTakesTheLeastSize();
        tuneByTrial();
        tuneAll();
        worst();
        Due.end();
    }

    static void step() {
        TwoKeys x = new TwoKeys();
        Due.is("10 step", x.step(4, 11, 999, 999), 1);
        Due.is("10 four times", x.step(4, 10, 4, 1), 1);
        Due.is("10 most", x.step(4, 9, 999, 250), 1);
        Due.is("10 least", x.step(4, 8, 1, 999), 1);
        for (int scale : NO_SCALES) {
            Due.is("10 scale " + scale, x.step(scale, 0, 1, 1), TwoKeys.UNKNOWN);
            Due.is("10 scale first " + scale, x.step(scale, 0, 0, 1), TwoKeys.UNKNOWN);
        }
        for (int step : NO_STEPS) {
            Due.is("10 step " + step, x.step(0, step, 1, 1), TwoKeys.UNKNOWN);
            Due.is("10 step first " + step, x.step(0, step, 1, 0), TwoKeys.UNKNOWN);
        }
        int[] wrong = {0, 1000, -1, Integer.MIN_VALUE, Integer.MAX_VALUE};
        for (int part : wrong) {
            Due.is("10 above " + part, x.step(4, 11, part, 999), TwoKeys.BAD);
            Due.is("10 below " + part, x.step(4, 11, 1, part), TwoKeys.BAD);
        }
        Due.is("10 too much", x.step(4, 11, 5, 1), TwoKeys.BAD);
        Due.is("10 too much by one", x.step(4, 11, 997, 249), TwoKeys.BAD);
        Due.is("10 a wide divisor", x.step(4, 11, 5, 536870912), TwoKeys.BAD);
        Due.is("10 kept above", x.share(4, 11, true), 999);
        Due.is("10 kept below", x.share(4, 11, false), 999);
    }

    static void share() {
        TwoKeys x = new TwoKeys();
        for (int scale = 0; scale < 5; scale++) {
            for (int step = 0; step < 12; step++) x.step(scale, step, 100 + 12 * scale + step, 200 + 12 * scale + step);
        }
        for (int scale = 0; scale < 5; scale++) {
            for (int step = 0; step < 12; step++) {
                Due.is("11 above", x.share(scale, step, true), 100 + 12 * scale + step);
                Due.is("11 below", x.share(scale, step, false), 200 + 12 * scale + step);
            }
        }
        for (int scale : NO_SCALES) Due.is("11 scale " + scale, x.share(scale, 0, true), TwoKeys.UNKNOWN);
        for (int step : NO_STEPS) Due.is("11 step " + step, x.share(0, step, false), TwoKeys.UNKNOWN);
    }

    static void use() {
        TwoKeys x = new TwoKeys();
        x.step(4, 0, 3, 2);
        Due.is("12 use", x.use(4), 0);
        Due.is("12 goal", x.about(0, 4), 12000);
        for (int scale : NO_SCALES) Due.is("12 scale " + scale, x.use(scale), TwoKeys.UNKNOWN);
        Due.is("12 use again", x.use(1), 4);
        Due.is("12 goal again", x.about(0, 4), 8000);
    }

    static void pitch() {
        TwoKeys x = new TwoKeys();
        Due.is("13 pitch", x.pitch(200000), 8000);
        Due.is("13 goal", x.about(3, 4), 200000);
        Due.is("13 least", x.pitch(1000), 200000);
        int[] wrong = {999, 200001, 0, -8000, Integer.MIN_VALUE, Integer.MAX_VALUE};
        for (int v : wrong) Due.is("13 v " + v, x.pitch(v), TwoKeys.BAD);
        Due.is("13 kept", x.about(0, 4), 1000);
    }

    static void wrong() {
        TwoKeys x = new TwoKeys();
        Due.is("14 nothing wrong", x.wrong(), 0);
        x.step(0, 1, 9, 8);
        x.step(0, 2, 7, 8);
        Due.is("14 both signs", x.wrong(), 2000);
        x.keys(14);
        Due.is("14 octave", x.wrong(), 2000 + 8000 + 10000);
        x.keys(2);
        Due.is("14 silent", x.wrong(), 1000);
        x.keys(24);
        x.pitch(200000);
        for (int step = 0; step < 12; step++) x.step(0, step, 4, 1);
        Due.is("14 greatest", x.wrong(), 12 * (800000 - 8000) + 12 * (1600000 - 8000));
    }

    static void tune() {
        TwoKeys x = new TwoKeys();
        x.strike(0, 0, 4990);
        x.strike(1, 1, 5003);
        Due.is("15 longer", x.tune(0), 0);
        Due.is("15 bent", x.about(0, 2), 10);
        Due.is("15 other", x.about(1, 2), 0);
        Due.is("15 shorter", x.tune(1), 0);
        Due.is("15 bent shorter", x.about(1, 2), -3);
        x.pitch(20000);
        Due.is("15 out of reach", x.tune(0), 8080 - 20000);
        Due.is("15 most bent", x.about(0, 2), -40);
        x.pitch(1000);
        Due.is("15 out of reach below", x.tune(0), 7952 - 1000);
        Due.is("15 most bent below", x.about(0, 2), 40);
        int[] wrong = {-1, 12, 24, Integer.MIN_VALUE, Integer.MAX_VALUE};
        for (int key : wrong) Due.is("15 key " + key, x.tune(key), TwoKeys.UNKNOWN);
        Due.is("15 kept", x.about(0, 2), 40);
    }

    static void tuneTakesTheLeastSize() {
        TwoKeys x = new TwoKeys();
        x.tension(0, 100);
        x.strike(0, 0, 9999);
        x.pitch(1000);
        x.step(0, 0, 1, 10);
        x.bend(0, 5);
        // a tone of 100 at each length from 9959 to 10000
        Due.is("15 error 0", x.tune(0), 0);
        Due.is("15 of like ones 0", x.about(0, 2), 0);
        // 99 begins at 10001
        x.step(0, 0, 99, 1000 - 1);
        x.pitch(1000);
        Due.is("15 error 0 farther out", x.tune(0), 0);
        Due.is("15 of like ones the least size", x.about(0, 2), 2);
        // 8000 at 5000, 7998 at 5001: 7999 is missed by 1 on both sides
        TwoKeys y = new TwoKeys();
        y.pitch(7999);
        Due.is("15 one above", y.tune(0), 1);
        Due.is("15 bent 0", y.about(0, 2), 0);
    }

    /** -b and b can't both be best without 0: tones fall with the length. So the first best from -40 on will do. */
    static void tuneByTrial() {
        for (int length = 500; length <= 9999; length += 37) {
            for (int tension = 100; tension <= 20000; tension = tension * 3 + 1) {
                for (int miss = -60; miss <= 60; miss += 10) trial(length, tension, miss);
            }
        }
    }

    private static void trial(int length, int tension, int miss) {
        TwoKeys x = new TwoKeys();
        x.keys(1);
        x.tension(0, tension);
        x.strike(0, 0, length);
        int pitch = Math.min(200000, Math.max(1000, tension * 10000 / length + miss));
        x.pitch(pitch);
        int best = -40;
        for (int bent = -39; bent <= 40; bent++) {
            int here = Math.abs(tension * 10000 / (length + bent) - pitch);
            int there = Math.abs(tension * 10000 / (length + best) - pitch);
            if (here < there || (here == there && Math.abs(bent) < Math.abs(best))) best = bent;
        }
        Due.is("15 trial", x.tune(0), tension * 10000 / (length + best) - pitch);
        Due.is("15 trial bent", x.about(0, 2), best);
    }

    static void tuneAll() {
        TwoKeys x = new TwoKeys();
        for (int key = 0; key < 12; key++) x.strike(key, key, 4994 + key);
        x.keys(11);
        x.strike(10, 10, 5050);
        Due.is("16 all", x.tuneAll(), Math.abs(4000 * 10000 / 5010 - 8000));
        for (int key = 0; key < 10; key++) Due.is("16 bent " + key, x.about(key, 2), 6 - key);
        Due.is("16 out of reach", x.about(10, 2), -40);
        Due.is("16 wrong", x.wrong(), 16);
        x.keys(12);
        Due.is("16 silent is not tuned", x.about(11, 2), 0);
    }

    static void worst() {
        TwoKeys x = new TwoKeys();
        Due.is("17 like ones", x.worst(), 0);
        x.bend(0, 1);
        Due.is("17 the first", x.worst(), 0);
        x.bend(1, 2);
        Due.is("17 the second", x.worst(), 1);
        x.step(0, 5, 9, 8);
        x.step(0, 7, 7, 8);
        Due.is("17 of like sizes the least", x.worst(), 5);
        x.step(0, 7, 6, 8);
        Due.is("17 below", x.worst(), 7);
        x.step(0, 11, 3, 2);
        Due.is("17 the last", x.worst(), 11);
        x.keys(11);
        Due.is("17 silent", x.worst(), 7);
        x.keys(1);
        Due.is("17 one key", x.worst(), 0);
    }
}
