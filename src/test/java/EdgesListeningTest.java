/** Part 5 of the terms and promises 25 to 27, edge by edge: draws, hearing, clear ticks, silence, hidden ones. */
public final class EdgesListeningTest {
    private static final int BAD = AirParted.BAD, NOT = AirParted.NOT;

    public static void main(String[] args) {
        listenIsBounded();
        noSuchListeners();
        theDrawIsBelowItsWorth();
        worthsRestByHundred();
        seedsWrap();
        theUpperBitsAreFrom0On();
        eachOfThemDraws();
        byNumbers();
        noneSpeaksAheadOfTheFirst();
        hearsFromEarOn();
        hearsTheSumOfOthers();
        itselfIsNotCounted();
        hearsTheTickBeforeAlone();
        hearsAtItsOwnCellWithoutMast();
        whoIsNotOfThem();
        clearAtTheEdge();
        theLongestSilence();
        oneTickAndTwoHundred();
        theTickStays();
        spokeIsBounded();
        spokeBeforeAny();
        spokeOfTheLatest();
        hiddenIsBounded();
        hiddenOfNone();
        hiddenFromEarOn();
        hiddenOfThree();
        hiddenIsHeardAlone();
        hiddenIsOncePerPair();
        whoIsNotHidden();
        Check.end();
    }

    // ---- what is drawn

    private static int next(int seed) {
        return (int) (1103515245L * seed + 12345L);
    }

    /** The k-th draw from a SEED on, from 0. */
    private static int draw(int seed, int k) {
        int now = seed;
        for (int i = 0; i <= k; i++) {
            now = next(now);
        }
        return (int) ((now & 0xFFFFFFFFL) / 65536 % 100);
    }

    /** A SEED from which so many draws are below 99, so that with WORTH 99 nothing but hearing keeps one still. */
    private static int loudSeed(int many) {
        for (int seed = 1; seed < 100000; seed++) {
            boolean all = true;
            for (int k = 0; k < many && all; k++) {
                all = draw(seed, k) < 99;
            }
            if (all) {
                return seed;
            }
        }
        throw new IllegalStateException();
    }

    /** Listeners, each with WORTH 99, of a strength, on cells of a row of twenty; GOALS are their own cells. */
    private static AirParted listeners(int strength, int... cells) {
        AirParted x = new AirParted();
        x.land(20, 1);
        for (int c : cells) {
            x.sender(3, c, strength, 0, 100, c);
            x.change(x.count(0) - 1, 1, 99);
        }
        return x;
    }

    // ---- promise 25

    private static void listenIsBounded() {
        Refusal.bounds("25: SLOT", States::some, (x, v) -> x.listen(v, 1, 1), 0, 11);
        Refusal.bounds("25: TICKS", States::some, (x, v) -> x.listen(0, 1, v), 1, 200);
        for (int seed : new int[] {Integer.MIN_VALUE, -1, 0, 1, Integer.MAX_VALUE}) {
            Refusal.taken("25: SEED " + seed, States::some, x -> x.listen(0, seed, 1), BAD);
            Refusal.bad("25: SEED " + seed + ", no TICKS", States::some, x -> x.listen(0, seed, 0));
        }
        Refusal.bad("25: BAD ahead of NOT, TICKS 0", States::some, x -> x.listen(5, 1, 0));
        Refusal.bad("25: BAD ahead of NOT, TICKS 201", States::some, x -> x.listen(5, 1, 201));
        Refusal.bad("25: BAD ahead of NOT, no SENDERS", States::fresh, x -> x.listen(12, 1, 1));
    }

    private static void noSuchListeners() {
        Refusal.due("25: NOT, no SENDERS", States::fresh, x -> x.listen(0, 1, 1), NOT);
        Refusal.due("25: NOT, none in the SLOT", States::some, x -> x.listen(11, 1, 200), NOT);
        for (int kind : new int[] {0, 1, 2, 4, 5}) {
            Refusal.due("25: NOT, only KIND " + kind, () -> one(kind, true), x -> x.listen(0, 1, 1), NOT);
        }
        Refusal.due("25: NOT, it is OFF", () -> one(3, false), x -> x.listen(0, 1, 1), NOT);
        Refusal.taken("25: one LISTENER", () -> one(3, true), x -> x.listen(0, 1, 1), NOT);
        for (int slot = 0; slot < 12; slot++) {
            AirParted x = one(3, true);
            x.change(0, 2, slot);
            for (int asked = 0; asked < 12; asked++) {
                Check.due("25: one in SLOT " + slot + " of " + asked, x.listen(asked, 1, 1) == NOT ? NOT : 1, asked == slot ? 1 : NOT);
            }
        }
    }

    private static AirParted one(int kind, boolean on) {
        AirParted x = new AirParted();
        x.sender(kind, 0, 100, 0, 100, 0);
        x.on(0, on);
        return x;
    }

    private static int wordsOf(int worth, int seed, int ticks) {
        AirParted x = one(3, true);
        x.change(0, 1, worth);
        return x.listen(0, seed, ticks);
    }

    private static void theDrawIsBelowItsWorth() {
        for (int seed = -40; seed < 40; seed++) {
            int d = draw(seed, 0);
            Check.due("25: the draw is its WORTH, from " + seed, wordsOf(d, seed, 1), 0);
            Check.due("25: the draw is one below, from " + seed, wordsOf(d + 1, seed, 1), d == 99 ? 0 : 1);
        }
        for (int seed = 0; seed < 100000; seed++) {
            if (draw(seed, 0) == 0) {
                Check.due("25: draw 0, WORTH 0", wordsOf(0, seed, 1), 0);
                Check.due("25: draw 0, WORTH 1", wordsOf(1, seed, 1), 1);
                break;
            }
        }
        for (int seed = 0; seed < 100000; seed++) {
            if (draw(seed, 0) == 99) {
                Check.due("25: draw 99, WORTH 99", wordsOf(99, seed, 1), 0);
                Check.due("25: draw 99, WORTH 999", wordsOf(999, seed, 1), 0);
                break;
            }
        }
    }

    private static void worthsRestByHundred() {
        for (int hundreds = 0; hundreds <= 1000; hundreds += 100) {
            Check.due("25: WORTH " + hundreds + " never speaks", wordsOf(hundreds, 3, 200), 0);
        }
        for (int hundreds = 100; hundreds <= 900; hundreds += 100) {
            Check.due("25: WORTH " + hundreds + " and 60 is as 60", wordsOf(hundreds + 60, 3, 200), wordsOf(60, 3, 200));
        }
        int due = 0;
        for (int k = 0; k < 200; k++) {
            due += draw(3, k) < 60 ? 1 : 0;
        }
        Check.due("25: WORTH 60", wordsOf(60, 3, 200), due);
    }

    private static void seedsWrap() {
        for (int seed : new int[] {Integer.MIN_VALUE, Integer.MIN_VALUE + 1, -2, -1, 0, 1, 2, 2147483646, Integer.MAX_VALUE}) {
            int due = 0;
            for (int k = 0; k < 200; k++) {
                due += draw(seed, k) < 50 ? 1 : 0;
            }
            Check.due("25: from SEED " + seed, wordsOf(50, seed, 200), due);
        }
    }

    private static void theUpperBitsAreFrom0On() {
        int below = 0;
        for (int seed = 0; seed < 60; seed++) {
            if (next(seed) < 0) {
                below++;
                int d = draw(seed, 0);
                Check.due("25: an int below 0 draws from 0 on, from " + seed, wordsOf(d, seed, 1), 0);
                Check.due("25: and one more is enough, from " + seed, wordsOf(d + 1, seed, 1), d == 99 ? 0 : 1);
            }
        }
        Check.holds("25: some ints were below 0", below > 5);
    }

    private static void eachOfThemDraws() {
        // The first never speaks, but draws; the second has each second draw.
        AirParted x = listeners(1, 0, 19);
        x.change(0, 1, 0);
        x.change(1, 1, 50);
        int due = 0;
        for (int t = 0; t < 100; t++) {
            due += draw(8, 2 * t + 1) < 50 ? 1 : 0;
        }
        Check.due("25: one that never speaks draws too", x.listen(0, 8, 100), due);
        Check.due("26: the first", x.spoke(0, 0), 0);
        Check.due("26: the second", x.spoke(1, 0), due);
        // Three on one cell hear each other: all speak, all are still; those that are still draw all the same.
        AirParted y = listeners(100, 0, 0, 0);
        int seed = 4;
        boolean[] before = new boolean[3];
        int sum = 0;
        for (int t = 0; t < 100; t++) {
            boolean[] now = new boolean[3];
            for (int i = 0; i < 3; i++) {
                boolean hears = before[(i + 1) % 3] || before[(i + 2) % 3];
                now[i] = !hears && draw(seed, 3 * t + i) < 99;
                sum += now[i] ? 1 : 0;
            }
            before = now;
        }
        Check.due("25: one that hears others draws too", y.listen(0, seed, 100), sum);
    }

    private static void byNumbers() {
        int seed = 0;
        while (draw(seed, 0) >= 50 || draw(seed, 1) < 50) {
            seed++;
        }
        AirParted x = listeners(1, 19, 0);
        x.change(0, 1, 50);
        x.change(1, 1, 50);
        Check.due("25: one of two", x.listen(0, seed, 1), 1);
        Check.due("26: the first has the first draw", x.spoke(0, 0), 1);
        Check.due("26: the second has the second", x.spoke(1, 0), 0);
    }

    private static void noneSpeaksAheadOfTheFirst() {
        AirParted x = listeners(1000000, 0, 0, 0, 0);
        int seed = loudSeed(8);
        Check.due("25: in the first TICK none hears any", x.listen(0, seed, 1), 4);
        Check.due("25: nor in the first TICK of the next call", x.listen(0, seed, 1), 4);
        Check.due("25: in the second all do", x.listen(0, seed, 2), 4);
    }

    private static void hearsFromEarOn() {
        // Ten off, 10100 by 101 is 100.
        AirParted x = listeners(101, 0, 10);
        int seed = loudSeed(8);
        x.set(3, 100);
        Check.due("25: GOT of EAR is heard", x.listen(0, seed, 4), 4);
        x.set(3, 101);
        Check.due("25: GOT of one less than EAR is not", x.listen(0, seed, 4), 8);
        x.set(3, 99);
        Check.due("25: GOT of one more is", x.listen(0, seed, 4), 4);
        AirParted y = listeners(1, 0, 19);
        y.set(3, 1);
        Check.due("25: GOT of 0 is never heard", y.listen(0, seed, 4), 8);
        AirParted z = listeners(1000000, 0, 0);
        z.set(3, 1000000);
        Check.due("25: the greatest EAR", z.listen(0, seed, 4), 4);
        AirParted first = listeners(101, 0, 10);
        Check.due("25: EAR is 100 at first", first.listen(0, seed, 4), 4);
    }

    private static void hearsTheSumOfOthers() {
        AirParted x = listeners(1, 0, 1, 2);
        x.set(3, 100);
        int seed = loudSeed(12);
        // Cell 1 gets 50 and 50; cells 0 and 2 get 50 and 20.
        Check.due("25: two of 50 are heard together", x.listen(0, seed, 2), 3 + 2);
        Check.due("26: the one between was still", x.spoke(1, 0), 1);
        x.set(3, 101);
        Check.due("25: and not with EAR 101", x.listen(0, seed, 2), 6);
        x.set(3, 70);
        Check.due("25: 50 and 20", x.listen(0, seed, 2), 3);
    }

    private static void itselfIsNotCounted() {
        AirParted x = listeners(1000000, 7);
        x.set(3, 1);
        Check.due("25: one alone does not hear itself", x.listen(0, loudSeed(20), 20), 20);
    }

    private static void hearsTheTickBeforeAlone() {
        AirParted x = listeners(1000, 0, 1);
        Check.due("25: speak, still, speak, still", x.listen(0, loudSeed(8), 4), 4);
        for (int i = 0; i < 2; i++) {
            Check.due("26: each spoke twice", x.spoke(i, 0), 2);
            Check.due("26: still for one TICK", x.spoke(i, 2), 1);
        }
    }

    private static void hearsAtItsOwnCellWithoutMast() {
        AirParted x = new AirParted();
        x.land(3, 1);
        x.sheet(0, 0, 3);
        x.put(0, 0, 1, 20);
        // Over a HILL of 20: MAST 20 of the one that speaks: by 205; of none: by 405.
        x.sender(3, 0, 1000, 20, 1, 0);
        x.sender(3, 2, 1000, 0, 1, 2);
        x.change(0, 1, 99);
        x.change(1, 1, 99);
        x.set(3, 300);
        int seed = loudSeed(8);
        Check.due("25: the second hears the first, not the other way", x.listen(0, seed, 3), 6 - 2);
        Check.due("26: the first never hears", x.spoke(0, 0), 3);
        Check.due("26: the second hears", x.spoke(1, 0), 1);
        x.set(3, 247);
        Check.due("25: 487 and 246 by 247", x.listen(0, seed, 3), 4);
        x.set(3, 246);
        Check.due("25: 246 by 246: both hear", x.listen(0, seed, 3), 4);
        Check.due("26: the first hears then", x.spoke(0, 0), 2);
        x.lose(0);
        x.set(3, 20000);
        Check.due("25: UNKNOWN ground is 0: 20000 each", x.listen(0, seed, 3), 4);
        x.set(3, 20001);
        Check.due("25: one more than that", x.listen(0, seed, 3), 6);
    }

    private static void whoIsNotOfThem() {
        AirParted x = listeners(1000, 0);
        for (int kind = 0; kind < 6; kind++) {
            x.sender(kind, 0, 1000000, 0, 1, 0);
            x.change(kind + 1, 1, 99);
        }
        x.change(4, 2, 1);
        x.sender(3, 0, 1000000, 0, 1, 0);
        x.change(7, 1, 99);
        x.on(7, false);
        Check.due("25: other KINDS, other SLOTS and OFF ones are not", x.listen(0, loudSeed(20), 20), 20);
        Check.due("26: nor in its way", x.spoke(0, 1), 20);
        for (int i = 1; i < 8; i++) {
            Check.due("26: nothing of them", x.spoke(i, 0) + x.spoke(i, 1) + x.spoke(i, 2), 0);
        }
        x.pass(1);
        Check.due("25: HOPPERS are not, wherever they hop", x.listen(0, loudSeed(20), 20), 20);
    }

    private static void clearAtTheEdge() {
        // GOT 100 each on one cell, none hears any: 10000 to MUCH times (10 and 100).
        for (int much = 90; much <= 91; much++) {
            AirParted x = new AirParted();
            x.set(3, 1000000);
            x.sender(3, 0, 1, 0, much, 0);
            x.sender(3, 0, 1, 0, 1000, 0);
            x.change(0, 1, 99);
            x.change(1, 1, 99);
            x.listen(0, loudSeed(8), 4);
            Check.due("26: MUCH " + much + ": 9900, 10010 of 10000", x.spoke(0, 1), much == 90 ? 4 : 0);
            Check.due("26: the other is never CLEAR", x.spoke(1, 1), 0);
            x.change(0, 1, 0);
            x.listen(0, loudSeed(8), 4);
            Check.due("26: one that did not speak is not CLEAR", x.spoke(0, 1), 0);
            Check.due("26: the other alone is just CLEAR", x.spoke(1, 1), 4);
            x.set(2, 11);
            x.listen(0, loudSeed(8), 4);
            Check.due("26: alone with more NOISE it is not", x.spoke(1, 1), 0);
        }
    }

    private static void theLongestSilence() {
        for (int worth : new int[] {0, 1, 5, 30, 60, 90, 99}) {
            for (int seed = 0; seed < 12; seed++) {
                AirParted x = one(3, true);
                x.change(0, 1, worth);
                x.listen(0, seed, 40);
                int longest = 0, row = 0;
                for (int k = 0; k < 40; k++) {
                    row = draw(seed, k) < worth ? 0 : row + 1;
                    longest = Math.max(longest, row);
                }
                Check.due("26: the longest row, WORTH " + worth + " from " + seed, x.spoke(0, 2), longest);
            }
        }
    }

    private static void oneTickAndTwoHundred() {
        AirParted x = one(3, true);
        x.change(0, 1, 99);
        int seed = loudSeed(1);
        Check.due("25: one TICK", x.listen(0, seed, 1), 1);
        Check.due("26: no silence", x.spoke(0, 2), 0);
        x.change(0, 1, 0);
        Check.due("25: one TICK of silence", x.listen(0, seed, 1), 0);
        Check.due("26: a row of one", x.spoke(0, 2), 1);
        Check.due("25: two hundred of silence", x.listen(0, seed, 200), 0);
        Check.due("26: a row of two hundred", x.spoke(0, 2), 200);
        AirParted y = new AirParted();
        for (int i = 0; i < 20; i++) {
            y.sender(3, 0, 1, 0, 1, 0);
            y.change(i, 1, 99);
        }
        y.set(3, 1000000);
        int due = 0;
        for (int k = 0; k < 4000; k++) {
            due += draw(1, k) < 99 ? 1 : 0;
        }
        Check.due("25: twenty for two hundred TICKS", y.listen(0, 1, 200), due);
    }

    private static void theTickStays() {
        AirParted x = listeners(10, 0, 5);
        x.pass(3);
        x.listen(0, 1, 200);
        Check.due("25: the TICK stays", x.count(8), 3);
        int first = x.listen(0, 9, 50);
        Check.due("25: the same call answers the same", x.listen(0, 9, 50), first);
        x.pass(1000);
        Check.due("25: LISTENERS stay", x.listen(0, 9, 50), first);
    }

    // ---- promise 26

    private static void spokeIsBounded() {
        Refusal.bounds("26: SENDER", States::some, (x, v) -> x.spoke(v, 0), 0, States.SENDERS - 1);
        Refusal.bounds("26: what", States::some, (x, v) -> x.spoke(3, v), 0, 2);
        Refusal.bounds("26: SENDER of twenty", States::full, (x, v) -> x.spoke(v, 2), 0, 19);
        Refusal.bad("26: no SENDERS", States::fresh, x -> x.spoke(0, 0));
    }

    private static void spokeBeforeAny() {
        AirParted x = listeners(10, 0, 5);
        for (int what = 0; what < 3; what++) {
            Check.due("26: 0 before any, " + what, x.spoke(1, what), 0);
        }
        x.listen(1, 1, 1);
        x.listen(0, 1, 0);
        for (int what = 0; what < 3; what++) {
            Check.due("26: 0 after refused ones, " + what, x.spoke(1, what), 0);
        }
    }

    private static void spokeOfTheLatest() {
        AirParted x = listeners(10, 0, 5);
        x.change(1, 2, 3);
        int seed = loudSeed(8);
        x.listen(0, seed, 8);
        Check.due("26: of one in it", x.spoke(0, 0), 8);
        Check.due("26: 0 of one that is not", x.spoke(1, 0) + x.spoke(1, 1) + x.spoke(1, 2), 0);
        x.listen(3, seed, 7);
        Check.due("26: of the latest", x.spoke(1, 0), 7);
        Check.due("26: 0 of one of the call before", x.spoke(0, 0) + x.spoke(0, 1) + x.spoke(0, 2), 0);
        x.listen(9, seed, 5);
        Check.due("26: a NOT one does not count", x.spoke(1, 0), 7);
        x.listen(12, seed, 5);
        Check.due("26: a BAD one does not count", x.spoke(1, 0), 7);
        x.hidden(0);
        Check.due("26: hidden() does not count", x.spoke(1, 0), 7);
        x.on(1, false);
        x.change(1, 2, 0);
        Check.due("26: it stays when the LISTENER changes", x.spoke(1, 0), 7);
        Check.due("26: a new SENDER has none", x.sender(3, 0, 1, 0, 1, 0) == 2 ? x.spoke(2, 2) : -9, 0);
        x.change(0, 1, 0);
        x.listen(0, seed, 8);
        Check.due("26: the silence of the latest", x.spoke(0, 2), 8);
        x.change(0, 1, 99);
        x.on(2, false);
        x.listen(0, seed, 8);
        Check.due("26: and of the next", x.spoke(0, 2), 0);
    }

    // ---- promise 27

    private static void hiddenIsBounded() {
        Refusal.bounds("27: SLOT", States::some, (x, v) -> x.hidden(v), 0, 11);
        Refusal.bounds("27: SLOT, no SENDERS", States::fresh, (x, v) -> x.hidden(v), 0, 11);
    }

    /** Two ten apart, both to be heard between: five off, so of STRENGTH 50 192 is GOT there, and 49 of each other. */
    private static AirParted pair() {
        AirParted x = new AirParted();
        x.land(11, 1);
        x.sender(3, 0, 50, 0, 500, 5);
        x.sender(3, 10, 50, 0, 500, 5);
        return x;
    }

    private static void hiddenOfNone() {
        Check.due("27: no SENDERS", new AirParted().hidden(0), 0);
        Check.due("27: one", one(3, true).hidden(0), 0);
        Check.due("27: a pair", pair().hidden(0), 1);
        for (int slot = 1; slot < 12; slot++) {
            Check.due("27: another SLOT", pair().hidden(slot), 0);
        }
        AirParted x = pair();
        x.change(0, 2, 11);
        x.change(1, 2, 11);
        Check.due("27: the last SLOT", x.hidden(11), 1);
        Check.due("27: none in the first then", x.hidden(0), 0);
    }

    private static void hiddenFromEarOn() {
        AirParted x = pair();
        x.set(3, 49);
        Check.due("27: GOT of EAR would be heard", x.hidden(0), 0);
        x.set(3, 50);
        Check.due("27: GOT of one less would not", x.hidden(0), 1);
        x.change(0, 0, 51);
        Check.due("27: the second would hear the first: 50", x.hidden(0), 0);
        x.change(0, 0, 50);
        x.change(1, 0, 51);
        Check.due("27: the first would hear the second: 50", x.hidden(0), 0);
    }

    /** Of three in a row each two are asked about by themselves, whichever of both would hear the other. */
    private static void hiddenOfThree() {
        for (int strong = 0; strong < 3; strong++) {
            AirParted x = new AirParted();
            x.land(20, 1);
            // Six off 37, twelve off 145: of STRENGTH 50 135 and 34 are GOT; of 200 540 and 137; on its own cell 5000, 20000.
            for (int i = 0; i < 3; i++) {
                x.sender(3, 6 * i, i == strong ? 200 : 50, 0, 10000, 6 * i);
            }
            x.set(3, 136);
            // MUCH is 100 times: with NOISE 20 a weak one may have 30 more beside it, so it is HEARD beside none.
            x.set(2, 20);
            Check.due("27: the two weak ones, where " + strong + " is heard by both", x.hidden(0), 1);
            x.set(3, 541);
            Check.due("27: all three, where none hears " + strong, x.hidden(0), 3);
        }
    }

    private static void hiddenIsHeardAlone() {
        AirParted x = pair();
        // 19200 to 500 times NOISE: just HEARD with 38.
        x.set(2, 38);
        Check.due("27: HEARD alone", x.hidden(0), 1);
        x.set(2, 39);
        Check.due("27: neither is HEARD alone", x.hidden(0), 0);
        AirParted y = new AirParted();
        y.land(11, 1);
        // 19200 to 100 times NOISE and 192: NOISE 1 is too much, so it needs MUCH 99: 19107.
        y.set(2, 1);
        y.sender(3, 0, 50, 0, 99, 5);
        y.sender(3, 10, 50, 0, 99, 5);
        Check.due("27: both are HEARD with the other", y.hidden(0), 0);
        y.sender(3, 10, 50, 0, 100, 5);
        y.change(1, 2, 1);
        Check.due("27: one of both is not", y.hidden(0), 1);
        AirParted z = new AirParted();
        z.land(11, 1);
        z.sender(3, 0, 50, 0, 10000, 5);
        z.sender(3, 10, 50, 0, 1, 5);
        Check.due("27: one not HEARD even alone, the other HEARD with it", z.hidden(0), 0);
    }

    private static void hiddenIsOncePerPair() {
        AirParted x = new AirParted();
        x.set(3, 1000000);
        for (int i = 0; i < 20; i++) {
            Check.due("27: pairs of " + i, x.hidden(0), i * (i - 1) / 2);
            x.sender(3, 0, 1, 0, 100, 0);
        }
        Check.due("27: pairs of twenty", x.hidden(0), 190);
    }

    private static void whoIsNotHidden() {
        AirParted x = pair();
        x.on(0, false);
        Check.due("27: the one is OFF", x.hidden(0), 0);
        x.on(0, true);
        x.on(1, false);
        Check.due("27: the other is OFF", x.hidden(0), 0);
        x.on(1, true);
        x.change(1, 2, 1);
        Check.due("27: in two SLOTS", x.hidden(0) + x.hidden(1), 0);
        for (int kind : new int[] {0, 1, 2, 4, 5}) {
            AirParted y = new AirParted();
            y.land(11, 1);
            y.sender(3, 0, 50, 0, 500, 5);
            y.sender(kind, 10, 50, 0, 500, 5);
            Check.due("27: one is of KIND " + kind, y.hidden(0), 0);
        }
        AirParted z = pair();
        z.sender(0, 5, 1000000, 0, 1, 5);
        Check.due("27: a third of another KIND does not count", z.hidden(0), 1);
    }
}
