import java.util.Random;

/** Promises 36 to 39: what is found without trying every pitch is what trying every pitch finds. */
public final class SeekTest {
    private static final int ROUNDS = 1500;

    private final Random chance;
    private final TwoKeys real = new TwoKeys();
    private final PlainModel plain = new PlainModel();
    private final int kind;

    private SeekTest(int round) {
        chance = new Random(1000 + round);
        kind = round % 6;
    }

    public static void main(String[] args) {
        for (int round = 0; round < ROUNDS; round++) new SeekTest(round).go(round);
        likeOnesFarApart();
        likeOnesOfManySlopes();
        Due.end();
    }

    private void go(int round) {
        int keys = 1 + chance.nextInt(24);
        real.keys(keys);
        plain.keys(keys);
        for (int step = 0; step < 12; step++) putStep(step);
        for (int key = 0; key < keys; key++) {
            int tone = toneFor(key);
            if (chance.nextInt(4) > 0) Due.is("measure", real.measure(key, tone), plain.measure(key, tone));
        }
        String name = "round " + round;
        Due.is(name + " pitch", real.found(0, 0), plain.found(0, 0));
        Due.is(name + " misfit", real.found(0, 1), plain.found(0, 1));
        if (round % 20 != 0) return;
        Due.is(name + " meant", real.meant(), plain.meant());
        Due.is(name + " added", real.added(0), plain.added(0));
        Due.is(name + " misfit without it", real.added(1), plain.added(1));
        for (int i = 0; i < 4; i++) Due.is(name + " bent later", real.bentLater(9, i), plain.bentLater(9, i));
    }

    private void putStep(int step) {
        int below = 1 + chance.nextInt(999);
        int above = 1 + chance.nextInt(Math.min(999, 4 * below));
        if (kind == 1) above = 1;
        if (kind == 2) {
            above = 24 + step;
            below = 24;
        }
        if (kind == 3) {
            above = 1;
            below = 999 - step;
        }
        if (kind == 4) above = below;
        real.step(0, step, above, below);
        plain.step(0, step, above, below);
        real.step(3, step, below, below);
        plain.step(3, step, below, below);
    }

    private int toneFor(int key) {
        if (kind == 0 || chance.nextInt(10) == 0) return 100 + chance.nextInt(399901);
        if (kind == 1 || kind == 3) return 100 + chance.nextInt(300);
        if (kind == 4) return 1000 + 10 * chance.nextInt(300);
        int goal = 60000 * (key < 12 ? 1 : 2) / plain.shares[0][key % 12][1] * plain.shares[0][key % 12][0];
        return Math.max(100, Math.min(400000, goal + chance.nextInt(41) - 20));
    }

    private static void measureAll(TwoKeys x, int[] aboves, int[] belows, int[] tones) {
        x.keys(24);
        for (int step = 0; step < 12; step++) x.step(0, step, aboves[step], belows[step]);
        for (int key = 0; key < 24; key++) {
            if (tones[key] != 0) x.measure(key, tones[key]);
        }
    }

    /**
     * Goals of 13 keys are far above what is measured and those of 10 far below, and together they neither gain nor lose
     * by pitch: only what is cut off tells pitches apart. It is least where a pitch by 20 is a multiple of 15 and one
     * less than a multiple of 19, which is so once in 285; right behind, it is as high as it comes.
     */
    static void likeOnesFarApart() {
        TwoKeys x = new TwoKeys();
        int[] aboves = {89, 89, 89, 89, 104, 96, 96, 96, 96, 96, 77, 77};
        int[] belows = {300, 300, 300, 300, 300, 380, 380, 380, 380, 380, 380, 380};
        int[] tones = new int[24];
        for (int key = 0; key < 23; key++) tones[key] = key % 12 < 5 ? 400000 : 100;
        measureAll(x, aboves, belows, tones);
        Due.is("36 the first of the like ones", x.found(0, 0), 1500);
        int least = x.found(0, 1);
        for (int pitch = 1500; pitch <= 200000; pitch += 285 * 20) {
            Due.is("35 a like one at " + pitch, x.misfit(0, pitch), least);
            Due.is("35 right behind " + pitch, x.misfit(0, pitch + 20), least + 21);
        }
    }

    /** The least misfit is far from where halving leads to, behind pitches whose misfit is sixteen higher. */
    static void likeOnesOfManySlopes() {
        TwoKeys x = new TwoKeys();
        int[] aboves = {389, 22, 788, 35, 416, 179, 10, 237, 10, 88, 788, 437};
        int[] belows = {400, 380, 980, 40, 600, 600, 160, 520, 240, 600, 980, 695};
        int[] tones = {400000, 100, 100, 280131, 282111, 400000, 400000, 100, 400000, 400000, 100, 100, 400000, 100, 100,
            100, 282111, 400000, 400000, 100, 400000, 400000, 100, 400000};
        measureAll(x, aboves, belows, tones);
        Due.is("36 the last of all pitches", x.found(0, 0), 200000);
    }
}
