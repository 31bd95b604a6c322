/** The document's third section and promises 29 to 33, each sentence that names a bound: both sides of it. */
public final class SharingBoundsTest {
    private static final int UNKNOWN = TwoKeys.UNKNOWN, BAD = TwoKeys.BAD, NONE = TwoKeys.NONE;

    public static void main(String[] args) {
        togetherFromTo();
        mostKeysOnEach();
        emptyBook();
        soManyStrings();
        tooFew();
        oneKey();
        allKeys();
        noClashAtAll();
        clashesOfTheBook();
        likeOnesTakeTheFewest();
        greaterGroupsFirst();
        groupsOfKinds();
        setUpStrings();
        tooFewToSetUp();
        Due.end();
    }

    private static TwoKeys withKeys(int n) {
        TwoKeys x = new TwoKeys();
        x.keys(n);
        x.book(15);
        return x;
    }

    private static void chord(TwoKeys x, int piece, int begin, int... keys) {
        for (int key : keys) x.note(piece, key, begin, 5);
    }

    private static void groups(String what, TwoKeys x, int most, int strings, String due) {
        for (int key = 0; key < due.length(); key++) {
            Due.is(what + " key " + key, x.group(most, strings, key), due.charAt(key) - 'a');
        }
        Due.is(what + " one key more", x.group(most, strings, due.length()), UNKNOWN);
    }

    /** "if KEYS from .. to SHARED one STRING. UNKNOWN: a KEY; BAD: to is below from." */
    static void togetherFromTo() {
        TwoKeys x = withKeys(12);
        chord(x, 0, 0, 0, 1, 2, 3, 10, 11);
        Due.is("29 all", x.together(0, 11), 15);
        Due.is("29 the first two", x.together(0, 1), 1);
        Due.is("29 the last two", x.together(10, 11), 1);
        Due.is("29 from the second on", x.together(1, 11), 10);
        Due.is("29 to the last but one", x.together(0, 10), 10);
        Due.is("29 keys between without notes", x.together(3, 10), 1);
        Due.is("29 just one", x.together(11, 11), 0);
        Due.is("29 just the first", x.together(0, 0), 0);
        Due.is("29 to is one below", x.together(11, 10), BAD);
        Due.is("29 to is far below", x.together(11, 0), BAD);
        Due.is("29 from is not there", x.together(12, 11), UNKNOWN);
        Due.is("29 from is not there, to is below", x.together(12, 0), UNKNOWN);
        Due.is("29 to is not there", x.together(11, 12), UNKNOWN);
        Due.is("29 to is below 0", x.together(0, -1), UNKNOWN);
        Due.is("29 from is below 0", x.together(-1, 0), UNKNOWN);
        x.keys(11);
        Due.is("29 the last one went", x.together(0, 11), UNKNOWN);
        Due.is("29 those left", x.together(0, 10), 10);
    }

    /** "each of MOST KEYS at most (1 .. 6)". */
    static void mostKeysOnEach() {
        TwoKeys x = withKeys(7);
        for (int most : new int[] {0, 7, -1}) {
            Due.is("30 most " + most, x.fewest(most), BAD);
            Due.is("31 most " + most, x.least(most, 7), BAD);
            Due.is("32 most " + most, x.group(most, 7, 0), BAD);
            Due.is("32 most, the fewest " + most, x.group(most, 0, 0), BAD);
            Due.is("33 most " + most, x.setUp(most, 7), BAD);
            Due.is("33 most, the fewest " + most, x.setUp(most, 0), BAD);
        }
        Due.is("30 most 1", x.fewest(1), 7);
        Due.is("30 most 6", x.fewest(6), 2);
        Due.is("31 most 6", x.least(6, 2), 0);
        Due.is("32 the sixth", x.group(6, 2, 5), 0);
        Due.is("32 the seventh", x.group(6, 2, 6), 1);
        x.keys(6);
        Due.is("30 six keys on one", x.fewest(6), 1);
        Due.is("33 six keys on one", x.setUp(6, 1), 1);
        Due.is("8 six keys on one", x.sharers(0), 6);
    }

    /** "THE BOOK .. (.. none at first)": without pieces nothing clashes, so just the most on each counts. */
    static void emptyBook() {
        for (int n = 1; n <= 24; n++) {
            TwoKeys x = new TwoKeys();
            x.keys(n);
            for (int i = 0; i < 24; i++) x.note(0, i, 0, 9);
            for (int most = 1; most <= 6; most++) {
                int due = (n + most - 1) / most;
                Due.is("30 of " + n + " by " + most, x.fewest(most), due);
                Due.is("31 of " + n + " by " + most, x.least(most, due), 0);
                Due.is("31 one fewer, of " + n + " by " + most, x.least(most, due - 1), due == 1 ? BAD : NONE);
                Due.is("32 the last of " + n + " by " + most, x.group(most, 0, n - 1), due - 1);
                Due.is("33 of " + n + " by " + most, x.setUp(most, 0), due);
                Due.is("40 of " + n + " by " + most, x.count(1), due);
                for (int key = 0; key < n; key += 5) Due.is("33 key " + key, x.about(key, 0), key / most);
            }
        }
    }

    /** "with so many STRINGS (1 .. 24) at most"; of THE FEWEST strings = 0. */
    static void soManyStrings() {
        TwoKeys x = withKeys(12);
        Due.is("31 0 strings", x.least(6, 0), BAD);
        Due.is("31 25 strings", x.least(6, 25), BAD);
        Due.is("31 24 strings", x.least(6, 24), 0);
        Due.is("32 0 strings", x.group(6, 0, 11), 1);
        Due.is("32 -1 strings", x.group(6, -1, 11), BAD);
        Due.is("32 25 strings", x.group(6, 25, 11), BAD);
        Due.is("32 24 strings", x.group(6, 24, 11), 1);
        Due.is("33 -1 strings", x.setUp(6, -1), BAD);
        Due.is("33 25 strings", x.setUp(6, 25), BAD);
        Due.is("33 24 strings", x.setUp(6, 24), 2);
        Due.is("33 0 strings", x.setUp(6, 0), 2);
        x.keys(1);
        Due.is("31 1 string", x.least(1, 1), 0);
        Due.is("32 1 string", x.group(1, 1, 0), 0);
        Due.is("33 1 string", x.setUp(1, 1), 1);
    }

    /** "NONE: too few." */
    static void tooFew() {
        for (int n = 1; n <= 24; n++) {
            TwoKeys x = withKeys(n);
            for (int most = 1; most <= 6; most++) {
                int enough = (n + most - 1) / most;
                Due.is("31 enough for " + n + " by " + most, x.least(most, enough), 0);
                Due.is("32 enough for " + n + " by " + most, x.group(most, enough, 0), 0);
                if (enough == 1) continue;
                Due.is("31 too few for " + n + " by " + most, x.least(most, enough - 1), NONE);
                Due.is("31 one for " + n + " by " + most, x.least(most, 1), NONE);
                Due.is("32 too few for " + n + " by " + most, x.group(most, enough - 1, 0), NONE);
                Due.is("32 no key, too few for " + n + " by " + most, x.group(most, enough - 1, n), UNKNOWN);
                Due.is("33 too few for " + n + " by " + most, x.setUp(most, enough - 1), NONE);
            }
        }
    }

    /** "n 1 .. 24": a single key has a string, whatever is in the book. */
    static void oneKey() {
        TwoKeys x = withKeys(1);
        chord(x, 0, 0, 0, 0, 1, 2);
        for (int most = 1; most <= 6; most++) {
            Due.is("30 by " + most, x.fewest(most), 1);
            Due.is("31 by " + most, x.least(most, 1), 0);
            Due.is("31 by " + most + " of 24", x.least(most, 24), 0);
            Due.is("32 by " + most, x.group(most, 0, 0), 0);
            Due.is("32 by " + most + " of 24", x.group(most, 24, 0), 0);
        }
        Due.is("29 alone", x.together(0, 0), 0);
        x.strike(0, 23, 5000);
        Due.is("33 alone", x.setUp(6, 0), 1);
        Due.is("33 alone on string 0", x.about(0, 0), 0);
    }

    /** All 24 keys at once: none can share, and each group of six has fifteen pairs. */
    static void allKeys() {
        TwoKeys x = withKeys(24);
        for (int key = 0; key < 24; key++) x.note(3, key, 999, 99);
        Due.is("29 all", x.together(0, 23), 276);
        Due.is("30 all", x.fewest(6), 24);
        Due.is("31 24 strings", x.least(6, 24), 0);
        Due.is("31 23 strings", x.least(6, 23), 1);
        Due.is("31 12 strings", x.least(6, 12), 12);
        Due.is("31 4 strings", x.least(6, 4), 60);
        Due.is("31 3 strings", x.least(6, 3), NONE);
        Due.is("31 24 strings by one", x.least(1, 24), 0);
        Due.is("31 23 strings by one", x.least(1, 23), NONE);
        Due.is("32 23 strings, the first two", x.group(6, 23, 1), 0);
        Due.is("32 23 strings, the last", x.group(6, 23, 23), 22);
        Due.is("33 all", x.setUp(6, 0), 24);
        Due.is("27 all", x.passes(3), 1);
        Due.is("33 4 strings", x.setUp(6, 4), 4);
        Due.is("21 4 strings", x.clashes(3), 60);
    }

    /** "THE FEWEST STRINGS without any CLASH": a single clash takes a string more. */
    static void noClashAtAll() {
        TwoKeys x = withKeys(6);
        Due.is("30 nothing clashes", x.fewest(6), 1);
        chord(x, 0, 0, 0, 5);
        Due.is("30 the ends clash", x.fewest(6), 2);
        groups("32 the ends clash", x, 6, 0, "aaaaab");
        Due.is("31 one string all the same", x.least(6, 1), 1);
        groups("32 one string all the same", x, 6, 1, "aaaaaa");
        chord(x, 1, 0, 2, 3);
        Due.is("30 two clash", x.fewest(6), 2);
        groups("32 two clash", x, 6, 0, "aaabbb");
        chord(x, 2, 0, 1, 2);
        Due.is("30 three clash", x.fewest(6), 3);
        groups("32 three clash", x, 6, 0, "aabccc");
        x.note(3, 4, 0, 5);
        x.note(3, 5, 5, 5);
        Due.is("30 one behind the other", x.fewest(6), 3);
        groups("32 one behind the other", x, 6, 0, "aabccc");
        x.note(3, 4, 9, 5);
        Due.is("30 by its last tick", x.fewest(6), 4);
        groups("32 by its last tick", x, 6, 0, "aabccd");
    }

    /** "Its CLASHES: of all PIECES of THE BOOK all pairs of NOTES that would CLASH.": not by strings struck now. */
    static void clashesOfTheBook() {
        TwoKeys x = withKeys(2);
        chord(x, 0, 0, 0, 0, 1);
        chord(x, 1, 0, 0, 1, 1, 1);
        chord(x, 2, 0, 0, 2);
        chord(x, 3, 0, 1, 1);
        Due.is("31 all", x.least(6, 1), 5);
        x.strike(0, 5, 500);
        Due.is("31 strings do not matter", x.least(6, 1), 5);
        Due.is("21 though they do now", x.clashes(0), 0);
        x.book(14);
        Due.is("31 without piece 0", x.least(6, 1), 3);
        x.keys(3);
        Due.is("31 key 2 came", x.least(6, 1), 4);
        x.rest(20);
        Due.is("31 chokes do not matter", x.least(6, 1), 4);
        x.wipe(1);
        Due.is("31 wiped", x.least(6, 1), 1);
        Due.is("30 wiped", x.fewest(6), 2);
        Due.is("32 wiped, key 1", x.group(6, 0, 1), 0);
        Due.is("32 wiped, key 2", x.group(6, 0, 2), 1);
    }

    /** "(for THE LEAST: of like ones with the fewest STRINGS ..)". */
    static void likeOnesTakeTheFewest() {
        TwoKeys x = withKeys(6);
        chord(x, 0, 0, 0, 1);
        for (int strings = 2; strings <= 24; strings++) Due.is("33 of " + strings, x.setUp(6, strings), 2);
        Due.is("33 of 1", x.setUp(6, 1), 1);
        chord(x, 1, 0, 0, 1);
        for (int strings = 2; strings <= 24; strings++) groupsOfTwo(x, strings);
    }

    private static void groupsOfTwo(TwoKeys x, int strings) {
        Due.is("32 the first of " + strings, x.group(6, strings, 0), 0);
        Due.is("32 the second of " + strings, x.group(6, strings, 1), 1);
        Due.is("32 the last of " + strings, x.group(6, strings, 5), 1);
    }

    /** "the greater first group, then the greater second one, .." */
    static void greaterGroupsFirst() {
        TwoKeys x = withKeys(5);
        groups("32 by four", x, 4, 0, "aaaab");
        groups("32 by three", x, 3, 0, "aaabb");
        groups("32 by two", x, 2, 0, "aabbc");
        groups("32 by one", x, 1, 0, "abcde");
        chord(x, 0, 0, 3, 4);
        groups("32 the last two are apart", x, 3, 0, "aaabc");
        groups("32 the last two clash", x, 3, 2, "aaabb");
        groups("32 the last is alone", x, 4, 2, "aaaab");
        chord(x, 0, 10, 0, 2);
        groups("32 the first gives way", x, 3, 0, "aabbc");
        chord(x, 0, 20, 1, 3);
        groups("32 a pair that is apart anyway", x, 3, 0, "aabbc");
        chord(x, 0, 30, 2, 3);
        groups("32 then the second", x, 3, 0, "aabcd");
    }

    /** "The group of a KEY in THE BEST SHARING: of THE FEWEST (strings = 0), of THE LEAST with so many." */
    static void groupsOfKinds() {
        TwoKeys x = withKeys(4);
        chord(x, 0, 0, 0, 1);
        chord(x, 0, 5, 0, 1);
        chord(x, 0, 10, 2, 3);
        groups("32 the fewest", x, 6, 0, "abbc");
        groups("32 the least of one", x, 6, 1, "aaaa");
        groups("32 the least of two", x, 6, 2, "abbb");
        groups("32 the least of three", x, 6, 3, "abbc");
        groups("32 the least of four", x, 6, 4, "abbc");
        groups("32 the least by two of two", x, 2, 2, "aabb");
    }

    /** "Set up, KEY k strikes the STRING that is its group's number; TENSIONS, LENGTHS stay." */
    static void setUpStrings() {
        TwoKeys x = withKeys(24);
        for (int key = 0; key < 24; key++) {
            x.strike(key, 23 - key, 600 + key);
            x.bend(key, key - 12);
            x.tension(key, 5000 + key);
        }
        Due.is("33 by five", x.setUp(5, 0), 5);
        for (int key = 0; key < 24; key++) {
            Due.is("33 string " + key, x.about(key, 0), key / 5);
            Due.is("33 length " + key, x.about(key, 1), 600 + key);
            Due.is("33 bent " + key, x.about(key, 2), key - 12);
            Due.is("33 tension " + key, x.tension(key, 4000), 5000 + key);
        }
        Due.is("40 strings struck", x.count(1), 5);
        Due.is("8 the first", x.sharers(0), 5);
        Due.is("8 the last", x.sharers(4), 4);
        Due.is("8 no more", x.sharers(5), 0);
    }

    /** "What is refused changes nothing.": a sharing that there is none of is not set up. */
    static void tooFewToSetUp() {
        for (int strings : new int[] {1, 2, 25, -1}) {
            int[] before = Rooms.seen(Rooms.busy(13));
            TwoKeys x = Rooms.busy(13);
            Due.is("33 of " + strings, x.setUp(6, strings), strings == 1 || strings == 2 ? NONE : BAD);
            Due.holds("33 of " + strings + " changes nothing", java.util.Arrays.equals(Rooms.seen(x), before));
        }
    }
}
