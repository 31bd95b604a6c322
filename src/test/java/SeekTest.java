import java.util.Random;

/** Promises 36 to 39: what is found without trying every pitch is what trying every pitch finds. */
public final class SeekTest {
    private static final int ROUNDS = 1500;

    private final Random chance;
    private final TwoKeys real = new TwoKeys();
    private final PlainModel plain = new PlainModel();
    private final int kind;

    private SeekTest(int round) {
        chance = new Random(1000 + round);
        kind = round % 6;
    }

    public static void main(String[] args) {
        for (int round = 0; round < ROUNDS; round++) new SeekTest(round).go(round);
        Due.end();
    }

    private void go(int round) {
        int keys = 1 + chance.nextInt(24);
        real.keys(keys);
        plain.keys(keys);
        for (int step = 0; step < 12; step++) putStep(step);
        for (int key = 0; key < keys; key++) {
            int tone = toneFor(key);
            if (chance.nextInt(4) > 0) Due.is("measure", real.measure(key, tone), plain.measure(key, tone));
        }
        String name = "round " + round;
        Due.is(name + " pitch", real.found(0, 0), plain.found(0, 0));
        Due.is(name + " misfit", real.found(0, 1), plain.found(0, 1));
        if (round % 20 != 0) return;
        Due.is(name + " meant", real.meant(), plain.meant());
        Due.is(name + " added", real.added(0), plain.added(0));
        Due.is(name + " misfit without it", real.added(1), plain.added(1));
        for (int i = 0; i < 4; i++) Due.is(name + " bent later", real.bentLater(9, i), plain.bentLater(9, i));
    }

    private void putStep(int step) {
        int below = 1 + chance.nextInt(999);
        int above = 1 + chance.nextInt(Math.min(999, 4 * below));
        if (kind == 1) above = 1;
        if (kind == 2) {
            above = 24 + step;
            below = 24;
        }
        if (kind == 3) {
            above = 1;
            below = 999 - step;
        }
        if (kind == 4) above = below;
        real.step(0, step, above, below);
        plain.step(0, step, above, below);
        real.step(3, step, below, below);
        plain.step(3, step, below, below);
    }

    private int toneFor(int key) {
        if (kind == 0 || chance.nextInt(10) == 0) return 100 + chance.nextInt(399901);
        if (kind == 1 || kind == 3) return 100 + chance.nextInt(300);
        if (kind == 4) return 1000 + 10 * chance.nextInt(300);
        int goal = 60000 * (key < 12 ? 1 : 2) / plain.shares[0][key % 12][1] * plain.shares[0][key % 12][0];
        return Math.max(100, Math.min(400000, goal + chance.nextInt(41) - 20));
    }
}
