import java.util.Random;

/** All promises: runs of calls by chance (always the same ones), compared with the plain model. */
public final class ModelTest {
    private static final int RUNS = 400;
    private static final int CALLS = 500;
    private static final int MOST_CALLS = 512;
    private static final int[] FAR = {Integer.MIN_VALUE, Integer.MAX_VALUE, -1, 1 << 16, -100009};

    private final Random chance;
    private final TwoKeys real = new TwoKeys();
    private final PlainModel plain = new PlainModel();
    private final int run;
    private final int mostKeys;
    private int clock = 0;
    private int calls = 0;

    private ModelTest(int run) {
        this.run = run;
        chance = new Random(run);
        // all sharings are tried by the model: 2 to the keys of them
        mostKeys = run % 5 == 0 ? 24 : 3 + run % 9;
    }

    public static void main(String[] args) {
        for (int run = 0; run < RUNS; run++) new ModelTest(run).go();
        Due.end();
    }

    private void go() {
        is("keys " + mostKeys, real.keys(mostKeys), plain.keys(mostKeys));
        int kind = run % 4;
        // one round makes at most six calls
        while (calls < CALLS) {
            int dice = chance.nextInt(100);
            if (kind == 0) {
                any(dice);
            } else if (dice < 30) {
                any(chance.nextInt(100));
            } else if (kind == 1) {
                music();
            } else if (kind == 2) {
                scales();
            } else {
                oldOnes();
            }
        }
    }

    private void any(int dice) {
        if (dice < 30) {
            scales();
        } else if (dice < 65) {
            music();
        } else if (dice < 80) {
            sharings();
        } else if (dice < 90) {
            oldOnes();
        } else {
            rare();
        }
    }

    private void is(String call, int got, int want) {
        calls++;
        Due.holds("few calls", calls <= MOST_CALLS);
        Due.is("run " + run + ": " + call, got, want);
    }

    /** From low to high, at times one beside them or far out. */
    private int from(int low, int high) {
        int dice = chance.nextInt(60);
        if (dice == 0) return low - 1;
        if (dice == 1) return high + 1;
        if (dice == 2) return FAR[chance.nextInt(FAR.length)];
        if (dice < 6) return low;
        if (dice < 9) return high;
        return low + chance.nextInt(high - low + 1);
    }

    private int key() {
        return from(0, mostKeys - 1);
    }

    private void rare() {
        int a = from(0, 3);
        int n = from(Math.max(1, mostKeys - 2), mostKeys);
        // the model must not be asked for too many sharings
        if (n > mostKeys && n <= 24) n = mostKeys;
        int v = from(0, 20);
        int set = from(0, 15);
        switch (chance.nextInt(5)) {
            case 0: is("keys " + n, real.keys(n), plain.keys(n)); break;
            case 1: is("wipe " + a, real.wipe(a), plain.wipe(a)); clock = 0; break;
            case 2: is("rest " + v, real.rest(v), plain.rest(v)); break;
            case 3: is("book " + set, real.book(set), plain.book(set)); break;
            default: is("count " + a, real.count(a + 1), plain.count(a + 1)); break;
        }
    }

    private void scales() {
        int key = key();
        int string = chance.nextInt(3) == 0 ? from(0, 23) : chance.nextInt(4);
        int length = chance.nextBoolean() ? from(500, 9999) : 5000 + chance.nextInt(3);
        int scale = from(0, 4);
        int step = from(0, 11);
        int v = from(-40, 40);
        switch (chance.nextInt(18)) {
            case 0: case 1: case 2:
                is("strike " + key, real.strike(key, string, length), plain.strike(key, string, length));
                break;
            case 3: { int t = from(100, 20000); is("tension " + t, real.tension(string, t), plain.tension(string, t)); break; }
            case 4: is("bend " + v, real.bend(key, v), plain.bend(key, v)); break;
            case 5: case 6: { int w = from(0, 5); is("about " + w, real.about(key, w), plain.about(key, w)); break; }
            case 7: { int p = from(0, 20); is("pressed " + p, real.pressed(key, p), plain.pressed(key, p)); break; }
            case 8: is("sharers " + string, real.sharers(string), plain.sharers(string)); break;
            case 9: is("order", real.order(), plain.order()); break;
            case 10: {
                int above = from(1, 999);
                int below = from(Math.max(1, Math.min(999, above / 4)), 999);
                is("step " + above + " " + below, real.step(scale, step, above, below), plain.step(scale, step, above, below));
                break;
            }
            case 11: {
                boolean upper = chance.nextBoolean();
                is("share", real.share(scale, step, upper), plain.share(scale, step, upper));
                break;
            }
            case 12: is("use " + scale, real.use(scale), plain.use(scale)); break;
            case 13: {
                int p = chance.nextBoolean() ? from(1000, 200000) : 7900 + chance.nextInt(200);
                is("pitch " + p, real.pitch(p), plain.pitch(p));
                break;
            }
            case 14: is("wrong", real.wrong(), plain.wrong()); break;
            case 15: is("tune " + key, real.tune(key), plain.tune(key)); break;
            case 16: if (chance.nextInt(5) == 0) is("tuneAll", real.tuneAll(), plain.tuneAll()); break;
            default: is("worst", real.worst(), plain.worst()); break;
        }
    }

    private void music() {
        int piece = from(0, 3);
        boolean bad = chance.nextBoolean();
        switch (chance.nextInt(16)) {
            case 0: case 1: case 2: case 3: case 4: case 5: case 6: addNote(piece); break;
            case 7: is("clashes", real.clashes(piece), plain.clashes(piece)); break;
            case 8: { int i = from(0, 9); is("clash " + i, real.clash(piece, i), plain.clash(piece, i)); break; }
            case 9: is("chokes", real.chokes(piece), plain.chokes(piece)); break;
            case 10: case 11: is("trills", real.trills(piece, bad), plain.trills(piece, bad)); break;
            case 12: case 13: {
                int string = chance.nextInt(3) == 0 ? from(0, 23) : chance.nextInt(4);
                int tick = chance.nextInt(4) == 0 ? from(0, 1100) : chance.nextInt(clock + 20);
                is("heard", real.heard(piece, string, tick), plain.heard(piece, string, tick));
                break;
            }
            case 14: { int key = key(); is("lost " + key, real.lost(piece, key), plain.lost(piece, key)); break; }
            default: is("passes", real.passes(piece), plain.passes(piece)); break;
        }
    }

    /** Often one behind the other of two keys, so that there are trills. */
    private void addNote(int piece) {
        int x = chance.nextInt(mostKeys);
        int y = chance.nextInt(mostKeys);
        int notes = 1 + chance.nextInt(6);
        for (int i = 0; i < notes; i++) {
            clock += chance.nextInt(4);
            int key = chance.nextInt(30) == 0 ? from(0, 23) : i % 2 == 0 ? x : y;
            int begin = chance.nextInt(40) == 0 ? from(0, 999) : Math.min(999, clock);
            int ticks = chance.nextInt(5) == 0 ? from(1, 99) : 1 + chance.nextInt(4);
            is("note", real.note(piece, key, begin, ticks), plain.note(piece, key, begin, ticks));
        }
    }

    private void sharings() {
        if (plain.n > 12) return;
        int most = from(1, 6);
        int strings = from(0, chance.nextBoolean() ? 24 : 5);
        int key = key();
        switch (chance.nextInt(6)) {
            case 0: { int to = key(); is("together", real.together(key, to), plain.together(key, to)); break; }
            case 1: is("fewest " + most, real.fewest(most), plain.fewest(most)); break;
            case 2: is("least " + most + " " + strings, real.least(most, strings), plain.least(most, strings)); break;
            case 3: case 4:
                is("group " + most + " " + strings, real.group(most, strings, key), plain.group(most, strings, key));
                break;
            default: is("setUp " + most + " " + strings, real.setUp(most, strings), plain.setUp(most, strings)); break;
        }
    }

    private void oldOnes() {
        int scale = from(0, 4);
        int what = from(0, 1);
        switch (chance.nextInt(40)) {
            case 0: is("found", real.found(scale, what), plain.found(scale, what)); break;
            case 1: if (chance.nextInt(3) == 0) is("meant", real.meant(), plain.meant()); break;
            case 2: if (chance.nextInt(6) == 0) is("added " + what, real.added(what), plain.added(what)); break;
            case 3: {
                int by = from(0, chance.nextBoolean() ? 400000 : 2000);
                int i = from(0, 3);
                if (chance.nextInt(3) == 0) is("bentLater", real.bentLater(by, i), plain.bentLater(by, i));
                break;
            }
            case 4: case 5: case 6: {
                int p = from(1000, 200000);
                is("misfit", real.misfit(scale, p), plain.misfit(scale, p));
                break;
            }
            case 7: is("count 4", real.count(4), plain.count(4)); break;
            default: measureOne(); break;
        }
    }

    private void measureOne() {
        int key = key();
        int tone = from(100, 400000);
        int dice = chance.nextInt(10);
        if (dice == 0) tone = TwoKeys.NONE;
        if (dice > 5 && 0 <= key && key < 24) {
            int goal = 20000 * (key < 12 ? 1 : 2) * plain.shares[1][key % 12][0] / plain.shares[1][key % 12][1];
            tone = goal + chance.nextInt(9) - 4;
        }
        is("measure", real.measure(key, tone), plain.measure(key, tone));
    }
}
