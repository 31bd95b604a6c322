import java.util.ArrayList;
import java.util.Arrays;
import java.util.List;

/**
 * "REFUSALS: .. Of several what is told first. What is refused changes nothing."
 * Every call is made with each mixture of the last values that are allowed, the first that are not, and the farthest
 * ones, in rooms of several kinds. What is refused, and as what, is told here once more in the document's order.
 */
public final class RefusalsTest {
    private static final int UNKNOWN = TwoKeys.UNKNOWN, BAD = TwoKeys.BAD, STATE = TwoKeys.STATE, FULL = TwoKeys.FULL;
    private static final int NONE = TwoKeys.NONE;

    /** A room that calls are made in, by what its refusals depend on. */
    record Kind(boolean busy, boolean old, int n) {
        TwoKeys make() {
            TwoKeys x = busy ? Rooms.busy(24) : new TwoKeys();
            for (int key : new int[] {0, 12, 23}) {
                if (busy && !old) x.measure(key, NONE);
            }
            x.keys(n);
            return x;
        }

        int notes(int piece) {
            return busy ? new int[] {3, 40, 0, 1}[piece] : 0;
        }

        int lastBegin(int piece) {
            return busy ? new int[] {10, 390, 0, 999}[piece] : 0;
        }

        int measured() {
            if (!old) return 0;
            return n == 24 ? 3 : n > 12 ? 2 : 1;
        }

        boolean hasNo(int key) {
            return out(key, 0, n - 1);
        }
    }

    interface Call {
        int on(TwoKeys x, int[] a);
    }

    interface Holds {
        boolean in(Kind kind, int[] a);
    }

    record Reason(int answer, Holds holds) {
    }

    private static final Kind[] KINDS = {new Kind(false, false, 1), new Kind(false, false, 12),
        new Kind(false, false, 24), new Kind(true, false, 13), new Kind(true, true, 1), new Kind(true, true, 12),
        new Kind(true, true, 13), new Kind(true, true, 24)};

    private final String name;
    private final Call call;
    private final List<Reason> reasons = new ArrayList<>();
    private final List<int[]> values = new ArrayList<>();
    private boolean asksOnly = false;
    private boolean mayBeNone = false;

    private RefusalsTest(String name, Call call) {
        this.name = name;
        this.call = call;
    }

    public static void main(String[] args) {
        Due.holds("rooms are read alike", Arrays.equals(Rooms.seen(Rooms.busy(13)), Rooms.seen(Rooms.busy(13))));
        keysAndStrings();
        scales();
        music();
        heardAndLost();
        sharings();
        oldOnes();
        withoutReasons();
        Due.end();
    }

    static boolean out(int v, int low, int high) {
        return v < low || v > high;
    }

    // ---- how a call is told

    private RefusalsTest with(int... mixed) {
        values.add(mixed);
        return this;
    }

    /** The last values that are allowed, the first that are not, the farthest ones. */
    private RefusalsTest around(int low, int high) {
        return with(low, high, low - 1, high + 1, Integer.MIN_VALUE, Integer.MAX_VALUE);
    }

    /** Around all that a room may have of keys; which of them it has is its own matter. */
    private RefusalsTest aroundKeys() {
        return with(0, 11, 12, 13, 23, -1, 1, 24, Integer.MIN_VALUE, Integer.MAX_VALUE);
    }

    private RefusalsTest refuses(int answer, Holds holds) {
        reasons.add(new Reason(answer, holds));
        return this;
    }

    private RefusalsTest changesNothing() {
        asksOnly = true;
        return this;
    }

    /** NONE is a true answer of this call, whatever it is asked for. */
    private RefusalsTest orNone() {
        mayBeNone = true;
        return this;
    }

    // ---- how it is tried

    /** All reasons can hold at once by pairs, but for those that are told to be apart. */
    private void go(String... apart) {
        boolean[][] met = new boolean[reasons.size()][reasons.size()];
        boolean granted = false;
        for (Kind kind : KINDS) {
            int[] before = Rooms.seen(kind.make());
            for (int[] a : mixtures()) {
                granted |= tryOne(kind, a, before);
                meet(met, kind, a);
            }
        }
        Due.holds(name + " is granted too", granted);
        for (int i = 0; i < met.length; i++) {
            for (int j = i; j < met.length; j++) {
                boolean never = Arrays.asList(apart).contains(i + " and " + j);
                Due.holds(name + " has reasons " + i + " and " + j + " at once", met[i][j] != never);
            }
        }
    }

    private List<int[]> mixtures() {
        List<int[]> all = new ArrayList<>();
        all.add(new int[0]);
        for (int[] choice : values) {
            List<int[]> longer = new ArrayList<>();
            for (int[] a : all) {
                for (int v : choice) {
                    int[] b = Arrays.copyOf(a, a.length + 1);
                    b[a.length] = v;
                    longer.add(b);
                }
            }
            all = longer;
        }
        return all;
    }

    private boolean tryOne(Kind kind, int[] a, int[] before) {
        TwoKeys x = kind.make();
        String what = kind + " " + name + Arrays.toString(a);
        int got = call.on(x, a);
        int due = 0;
        for (Reason reason : reasons) {
            if (due == 0 && reason.holds.in(kind, a)) due = reason.answer;
        }
        if (due == 0) {
            Due.holds(what + " is not refused by " + got, out(got, FULL, UNKNOWN) && (mayBeNone || got != NONE));
        } else {
            Due.is(what, got, due);
        }
        if (due != 0 || asksOnly) Due.holds(what + " changes nothing", Arrays.equals(Rooms.seen(x), before));
        return due == 0;
    }

    private void meet(boolean[][] met, Kind kind, int[] a) {
        for (int i = 0; i < met.length; i++) {
            for (int j = i; j < met.length; j++) {
                met[i][j] |= reasons.get(i).holds.in(kind, a) && reasons.get(j).holds.in(kind, a);
            }
        }
    }

    // ---- the calls, each with its reasons as the document orders them

    static void keysAndStrings() {
        new RefusalsTest("2 keys", (x, a) -> x.keys(a[0])).around(1, 24)
                .refuses(BAD, (k, a) -> out(a[0], 1, 24)).go();
        new RefusalsTest("3 strike", (x, a) -> x.strike(a[0], a[1], a[2])).aroundKeys().around(0, 23).around(500, 9999)
                .refuses(UNKNOWN, (k, a) -> k.hasNo(a[0])).refuses(UNKNOWN, (k, a) -> out(a[1], 0, 23))
                .refuses(BAD, (k, a) -> out(a[2], 500, 9999)).go();
        new RefusalsTest("4 tension", (x, a) -> x.tension(a[0], a[1])).around(0, 23).around(100, 20000)
                .refuses(UNKNOWN, (k, a) -> out(a[0], 0, 23)).refuses(BAD, (k, a) -> out(a[1], 100, 20000)).go();
        new RefusalsTest("5 bend", (x, a) -> x.bend(a[0], a[1])).aroundKeys().around(-40, 40)
                .refuses(UNKNOWN, (k, a) -> k.hasNo(a[0])).refuses(BAD, (k, a) -> out(a[1], -40, 40)).go();
        new RefusalsTest("6 about", (x, a) -> x.about(a[0], a[1])).aroundKeys().around(0, 5).changesNothing()
                .refuses(UNKNOWN, (k, a) -> k.hasNo(a[0])).refuses(BAD, (k, a) -> out(a[1], 0, 5)).go();
        new RefusalsTest("7 pressed", (x, a) -> x.pressed(a[0], a[1])).aroundKeys().around(0, 20).changesNothing()
                .refuses(UNKNOWN, (k, a) -> k.hasNo(a[0])).refuses(BAD, (k, a) -> out(a[1], 0, 20)).go();
        new RefusalsTest("8 sharers", (x, a) -> x.sharers(a[0])).around(0, 23).changesNothing()
                .refuses(UNKNOWN, (k, a) -> out(a[0], 0, 23)).go();
    }

    static void scales() {
        new RefusalsTest("10 step", (x, a) -> x.step(a[0], a[1], a[2], a[3])).around(0, 4).around(0, 11)
                .with(1, 4, 5, 996, 997, 999, 0, 1000, -1, Integer.MIN_VALUE, Integer.MAX_VALUE)
                .with(1, 249, 250, 999, 0, 1000, -1, 1 << 29, Integer.MIN_VALUE, Integer.MAX_VALUE)
                .refuses(UNKNOWN, (k, a) -> out(a[0], 0, 4)).refuses(UNKNOWN, (k, a) -> out(a[1], 0, 11))
                .refuses(BAD, (k, a) -> out(a[2], 1, 999)).refuses(BAD, (k, a) -> out(a[3], 1, 999))
                .refuses(BAD, (k, a) -> a[2] > 4L * a[3]).go();
        for (boolean upper : new boolean[] {true, false}) {
            new RefusalsTest("11 share " + upper, (x, a) -> x.share(a[0], a[1], upper)).around(0, 4).around(0, 11)
                    .changesNothing()
                    .refuses(UNKNOWN, (k, a) -> out(a[0], 0, 4)).refuses(UNKNOWN, (k, a) -> out(a[1], 0, 11)).go();
        }
        new RefusalsTest("12 use", (x, a) -> x.use(a[0])).around(0, 4)
                .refuses(UNKNOWN, (k, a) -> out(a[0], 0, 4)).go();
        new RefusalsTest("13 pitch", (x, a) -> x.pitch(a[0])).around(1000, 200000)
                .refuses(BAD, (k, a) -> out(a[0], 1000, 200000)).go();
        new RefusalsTest("15 tune", (x, a) -> x.tune(a[0])).aroundKeys()
                .refuses(UNKNOWN, (k, a) -> k.hasNo(a[0])).go();
    }

    static void music() {
        new RefusalsTest("18 note", (x, a) -> x.note(a[0], a[1], a[2], a[3])).with(0, 1, 2, 3, -1, 4, Integer.MAX_VALUE)
                .around(0, 23).with(0, 9, 10, 389, 390, 998, 999, -1, 1000, Integer.MIN_VALUE, Integer.MAX_VALUE)
                .around(1, 99)
                .refuses(UNKNOWN, (k, a) -> out(a[0], 0, 3)).refuses(BAD, (k, a) -> out(a[1], 0, 23))
                .refuses(BAD, (k, a) -> out(a[2], 0, 999)).refuses(BAD, (k, a) -> out(a[3], 1, 99))
                .refuses(STATE, (k, a) -> !out(a[0], 0, 3) && a[2] < k.lastBegin(a[0]))
                .refuses(FULL, (k, a) -> !out(a[0], 0, 3) && k.notes(a[0]) == 40)
                // a piece that is not there has neither a last note nor too many
                .go("0 and 4", "0 and 5");
        new RefusalsTest("19 wipe", (x, a) -> x.wipe(a[0])).around(0, 3)
                .refuses(UNKNOWN, (k, a) -> out(a[0], 0, 3)).go();
        new RefusalsTest("20 rest", (x, a) -> x.rest(a[0])).around(0, 20)
                .refuses(BAD, (k, a) -> out(a[0], 0, 20)).go();
        ofPiece("21 clashes", (x, a) -> x.clashes(a[0]));
        new RefusalsTest("22 clash", (x, a) -> x.clash(a[0], a[1])).around(0, 3).around(0, 39).changesNothing().orNone()
                .refuses(UNKNOWN, (k, a) -> out(a[0], 0, 3)).go();
        ofPiece("23 chokes", (x, a) -> x.chokes(a[0]));
        ofPiece("24 trills", (x, a) -> x.trills(a[0], false));
        ofPiece("24 bad trills", (x, a) -> x.trills(a[0], true));
        ofPiece("27 passes", (x, a) -> x.passes(a[0]));
        new RefusalsTest("28 book", (x, a) -> x.book(a[0])).around(0, 15)
                .refuses(BAD, (k, a) -> out(a[0], 0, 15)).go();
    }

    private static void ofPiece(String name, Call call) {
        new RefusalsTest(name, call).around(0, 3).changesNothing()
                .refuses(UNKNOWN, (k, a) -> out(a[0], 0, 3)).go();
    }

    static void heardAndLost() {
        new RefusalsTest("25 heard", (x, a) -> x.heard(a[0], a[1], a[2])).around(0, 3).around(0, 23).around(0, 1100)
                .changesNothing().orNone()
                .refuses(UNKNOWN, (k, a) -> out(a[0], 0, 3)).refuses(UNKNOWN, (k, a) -> out(a[1], 0, 23))
                .refuses(BAD, (k, a) -> out(a[2], 0, 1100)).go();
        new RefusalsTest("26 lost", (x, a) -> x.lost(a[0], a[1])).around(0, 3).aroundKeys().changesNothing()
                .refuses(UNKNOWN, (k, a) -> out(a[0], 0, 3)).refuses(UNKNOWN, (k, a) -> k.hasNo(a[1])).go();
    }

    /** Whether groups of that many keys at most would be too few; where the most is none, by the nearest that is. */
    private static boolean tooFew(Kind kind, int most, int strings) {
        return strings != 0 && (long) strings * Math.min(6, Math.max(1, most)) < kind.n;
    }

    static void sharings() {
        new RefusalsTest("29 together", (x, a) -> x.together(a[0], a[1])).aroundKeys().aroundKeys().changesNothing()
                .refuses(UNKNOWN, (k, a) -> k.hasNo(a[0])).refuses(UNKNOWN, (k, a) -> k.hasNo(a[1]))
                .refuses(BAD, (k, a) -> a[1] < a[0]).go();
        new RefusalsTest("30 fewest", (x, a) -> x.fewest(a[0])).around(1, 6).changesNothing()
                .refuses(BAD, (k, a) -> out(a[0], 1, 6)).go();
        new RefusalsTest("31 least", (x, a) -> x.least(a[0], a[1])).around(1, 6).with(1, 2, 3, 4, 11, 12, 13, 23, 24, 0,
                25, -1, Integer.MIN_VALUE, Integer.MAX_VALUE).changesNothing()
                .refuses(BAD, (k, a) -> out(a[0], 1, 6)).refuses(BAD, (k, a) -> out(a[1], 1, 24))
                .refuses(NONE, (k, a) -> tooFew(k, a[0], a[1])).go();
        new RefusalsTest("32 group", (x, a) -> x.group(a[0], a[1], a[2])).around(1, 6).with(0, 1, 2, 3, 11, 12, 23, 24,
                25, -1, Integer.MIN_VALUE, Integer.MAX_VALUE).aroundKeys().changesNothing()
                .refuses(UNKNOWN, (k, a) -> k.hasNo(a[2])).refuses(BAD, (k, a) -> out(a[0], 1, 6))
                .refuses(BAD, (k, a) -> out(a[1], 0, 24)).refuses(NONE, (k, a) -> tooFew(k, a[0], a[1])).go();
        new RefusalsTest("33 setUp", (x, a) -> x.setUp(a[0], a[1])).around(1, 6).with(0, 1, 2, 3, 4, 11, 12, 13, 23, 24,
                25, -1, Integer.MIN_VALUE, Integer.MAX_VALUE)
                .refuses(BAD, (k, a) -> out(a[0], 1, 6)).refuses(BAD, (k, a) -> out(a[1], 0, 24))
                .refuses(NONE, (k, a) -> tooFew(k, a[0], a[1])).go();
    }

    static void oldOnes() {
        new RefusalsTest("34 measure", (x, a) -> x.measure(a[0], a[1])).aroundKeys().orNone()
                .with(100, 400000, NONE, 99, 400001, NONE - 1, NONE + 1, UNKNOWN, 0, -1, Integer.MIN_VALUE,
                        Integer.MAX_VALUE)
                .refuses(UNKNOWN, (k, a) -> k.hasNo(a[0]))
                .refuses(BAD, (k, a) -> a[1] != NONE && out(a[1], 100, 400000)).go();
        new RefusalsTest("35 misfit", (x, a) -> x.misfit(a[0], a[1])).around(0, 4).around(1000, 200000).changesNothing()
                .refuses(UNKNOWN, (k, a) -> out(a[0], 0, 4)).refuses(BAD, (k, a) -> out(a[1], 1000, 200000)).go();
        new RefusalsTest("36 found", (x, a) -> x.found(a[0], a[1])).around(0, 4).around(0, 1).changesNothing()
                .refuses(UNKNOWN, (k, a) -> out(a[0], 0, 4)).refuses(BAD, (k, a) -> out(a[1], 0, 1))
                .refuses(STATE, (k, a) -> k.measured() < 1).go();
        new RefusalsTest("37 meant", (x, a) -> x.meant()).changesNothing()
                .refuses(STATE, (k, a) -> k.measured() < 1).go();
        new RefusalsTest("38 added", (x, a) -> x.added(a[0])).around(0, 1).changesNothing()
                .refuses(BAD, (k, a) -> out(a[0], 0, 1)).refuses(STATE, (k, a) -> k.measured() < 2).go();
        new RefusalsTest("39 bentLater", (x, a) -> x.bentLater(a[0], a[1])).around(0, 400000).around(0, 23)
                .changesNothing().orNone()
                .refuses(BAD, (k, a) -> out(a[0], 0, 400000)).refuses(STATE, (k, a) -> k.measured() < 1).go();
        new RefusalsTest("40 count", (x, a) -> x.count(a[0])).around(0, 5).changesNothing()
                .refuses(BAD, (k, a) -> out(a[0], 0, 5)).go();
    }

    static void withoutReasons() {
        new RefusalsTest("9 order", (x, a) -> x.order()).changesNothing().go();
        new RefusalsTest("14 wrong", (x, a) -> x.wrong()).changesNothing().go();
        new RefusalsTest("16 tuneAll", (x, a) -> x.tuneAll()).go();
        new RefusalsTest("17 worst", (x, a) -> x.worst()).changesNothing().go();
    }
}
