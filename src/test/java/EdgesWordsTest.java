/** Part 4 of the terms and promises 21 to 24, edge by edge: words, flows, hops. */
public final class EdgesWordsTest {
    private static final int BAD = AirParted.BAD;

    public static void main(String[] args) {
        oddsIsBounded();
        oddsOfSureBits();
        oddsWhereAllIsMended();
        oddsOfOneBit();
        oddsAreRoundedDown();
        oddsOfTheLongestWord();
        flowIsBounded();
        flowWhereNoneMustBeRead();
        flowWhereAllMustBeRead();
        oddsOfAFlowAreCutToHundredths();
        flowIsRoundedDown();
        hopsIsBounded();
        hopsByPrimesAlone();
        hopsAtTheEndsOfShifts();
        hopsWrap();
        mostIsBounded();
        mostOfOneRowWithItself();
        mostOfTwoRowsHasShift0Too();
        mostOfTwo();
        Check.end();
    }

    // ---- promise 21

    private static void oddsIsBounded() {
        Refusal.bounds("21: bits", States::some, (x, v) -> x.odds(v, 0, 50), 1, 8);
        Refusal.bounds("21: mended of 8", States::some, (x, v) -> x.odds(8, v, 50), 0, 8);
        Refusal.bounds("21: mended of 1", States::some, (x, v) -> x.odds(1, v, 50), 0, 1);
        Refusal.bounds("21: mended of 5", States::some, (x, v) -> x.odds(5, v, 50), 0, 5);
        Refusal.bounds("21: hundredths", States::some, (x, v) -> x.odds(8, 4, v), 0, 100);
        Refusal.bounds("21: hundredths of one bit", States::fresh, (x, v) -> x.odds(1, 0, v), 0, 100);
    }

    private static void oddsOfSureBits() {
        AirParted x = new AirParted();
        for (int n = 1; n <= 8; n++) {
            for (int t = 0; t <= n; t++) {
                Check.due("21: no bit is ever wrong", x.odds(n, t, 0), 1000000);
                Check.due("21: every bit is wrong", x.odds(n, t, 100), t == n ? 1000000 : 0);
            }
        }
    }

    private static void oddsWhereAllIsMended() {
        AirParted x = new AirParted();
        for (int n = 1; n <= 8; n++) {
            for (int p : new int[] {1, 33, 50, 67, 99}) {
                Check.due("21: all of " + n + " may be wrong", x.odds(n, n, p), 1000000);
            }
        }
    }

    private static void oddsOfOneBit() {
        AirParted x = new AirParted();
        for (int p = 0; p <= 100; p++) {
            Check.due("21: one bit", x.odds(1, 0, p), 10000 * (100 - p));
        }
        Check.due("21: two bits, one mended, by 1", x.odds(2, 1, 1), 999900);
        Check.due("21: two bits, one mended, by 99", x.odds(2, 1, 99), 19900);
        Check.due("21: three bits, by 1", x.odds(3, 0, 1), 970299);
        Check.due("21: three bits, two mended, by 99", x.odds(3, 2, 99), 29701);
    }

    private static void oddsAreRoundedDown() {
        AirParted x = new AirParted();
        // 0.99 to the fourth is 0.96059601.
        Check.due("21: .. 596.01", x.odds(4, 0, 1), 960596);
        // 0.51 to the fourth is 0.06765201; 0.49 to the fourth 0.05764801, the rest of 1 is 0.94235199.
        Check.due("21: .. 652.01", x.odds(4, 0, 49), 67652);
        Check.due("21: .. 351.99 is not 352", x.odds(4, 3, 49), 942351);
        // 0.01 to the fourth is 0.00000001.
        Check.due("21: a hundredth of a millionth is 0", x.odds(4, 0, 99), 0);
        Check.due("21: all but a hundredth of a millionth is not 1", x.odds(4, 3, 1), 999999);
        Check.due("21: three bits have no rest", x.odds(3, 0, 99), 1);
        // 0.97 to the fifth is 0.8587340257.
        Check.due("21: .. 734.0257", x.odds(5, 0, 3), 858734);
    }

    private static void oddsOfTheLongestWord() {
        AirParted x = new AirParted();
        // Of 256 ways 1, 9, 37, 93, 163, 219, 247, 255, 256 have up to 0, 1, .. 8 bits wrong.
        int[] ways = {1, 9, 37, 93, 163, 219, 247, 255, 256};
        for (int t = 0; t <= 8; t++) {
            Check.due("21: eight bits by halves, " + t + " mended", x.odds(8, t, 50), ways[t] * 1000000 / 256);
        }
        Check.due("21: seven of eight mended, by 99", x.odds(8, 7, 99), 77255);
        Check.due("21: seven of eight mended, by 1", x.odds(8, 7, 1), 999999);
        Check.due("21: none of eight mended, by 1", x.odds(8, 0, 1), 922744);
    }

    // ---- promise 22

    private static void flowIsBounded() {
        Refusal.bounds("22: bits", States::some, (x, v) -> x.flow(v, 0, 50, 8, 4), 1, 8);
        Refusal.bounds("22: mended", States::some, (x, v) -> x.flow(5, v, 50, 8, 4), 0, 5);
        Refusal.bounds("22: mended of 8", States::some, (x, v) -> x.flow(8, v, 50, 8, 4), 0, 8);
        Refusal.bounds("22: hundredths", States::some, (x, v) -> x.flow(8, 4, v, 8, 4), 0, 100);
        Refusal.bounds("22: words", States::some, (x, v) -> x.flow(8, 4, 50, v, 0), 1, 8);
        Refusal.bounds("22: to be read of 8", States::some, (x, v) -> x.flow(8, 4, 50, 8, v), 0, 8);
        Refusal.bounds("22: to be read of 1", States::some, (x, v) -> x.flow(8, 4, 50, 1, v), 0, 1);
        Refusal.bounds("22: to be read of 5", States::fresh, (x, v) -> x.flow(1, 0, 50, 5, v), 0, 5);
    }

    private static void flowWhereNoneMustBeRead() {
        AirParted x = new AirParted();
        for (int m = 1; m <= 8; m++) {
            for (int p : new int[] {0, 1, 50, 99, 100}) {
                Check.due("22: none of " + m + " must be read", x.flow(8, 0, p, m, 0), 1000000);
            }
        }
    }

    private static void flowWhereAllMustBeRead() {
        AirParted x = new AirParted();
        for (int m = 1; m <= 8; m++) {
            Check.due("22: all of " + m + " are sure", x.flow(8, 0, 0, m, m), 1000000);
            Check.due("22: none of " + m + " is ever read", x.flow(8, 7, 100, m, 1), 0);
            Check.due("22: one of " + m + " by halves", x.flow(1, 0, 50, m, 1), (int) (1000000L * ((1 << m) - 1) >> m));
            Check.due("22: all of " + m + " by halves", x.flow(1, 0, 50, m, m), 1000000 >> m);
        }
    }

    private static void oddsOfAFlowAreCutToHundredths() {
        AirParted x = new AirParted();
        Check.due("22: 970299 is 97", x.flow(3, 0, 1, 1, 1), 970000);
        Check.due("22: 999999 is 99", x.flow(8, 7, 1, 1, 1), 990000);
        Check.due("22: 1000000 is 100", x.flow(8, 8, 1, 8, 8), 1000000);
        // 19900 is 1; 9801 (0.99 wrong twice: 0.0001) is 0.
        Check.due("22: 19900 is 1", x.flow(2, 1, 99, 1, 1), 10000);
        Check.due("22: 100 is 0", x.flow(2, 0, 99, 1, 1), 0);
        Check.due("22: 0 hundredths are never read", x.flow(2, 0, 99, 8, 1), 0);
        Check.due("22: 10000 is 1", x.flow(1, 0, 99, 1, 1), 10000);
    }

    private static void flowIsRoundedDown() {
        AirParted x = new AirParted();
        Check.due("22: 0.99 to the fourth", x.flow(1, 0, 1, 4, 4), 960596);
        Check.due("22: one of four by 99", x.flow(1, 0, 1, 4, 1), 999999);
        Check.due("22: four of four by 1", x.flow(1, 0, 99, 4, 4), 0);
        // 28 times 0.9 to the sixth times 0.01, 8 times 0.9 to the seventh times 0.1, 0.9 to the eighth: 0.96190821.
        Check.due("22: six of eight by 90", x.flow(1, 0, 10, 8, 6), 961908);
    }

    // ---- promise 23

    private static void hopsIsBounded() {
        for (int p : new int[] {2, 3, 5, 7, 11}) {
            Refusal.bounds("23: the one row by " + p, States::fresh, (x, v) -> x.hops(p, v, 1, 0), 1, p - 1);
            Refusal.bounds("23: the other row by " + p, States::fresh, (x, v) -> x.hops(p, 1, v, 0), 1, p - 1);
            Refusal.bounds("23: the shift by " + p, States::fresh, (x, v) -> x.hops(p, 1, p - 1, v), 0, p - 1);
        }
        Refusal.bounds("23: the shift, of a state with more", States::some, (x, v) -> x.hops(11, 1, 1, v), 0, 10);
    }

    private static void hopsByPrimesAlone() {
        for (int p : new int[] {Integer.MIN_VALUE, -11, -7, -5, -3, -2, -1, 0, 1, 4, 6, 8, 9, 10, 12, 13, 17, Integer.MAX_VALUE}) {
            Refusal.bad("23: by " + p, States::fresh, x -> x.hops(p, 1, 1, 0));
            Refusal.bad("24: by " + p, States::fresh, x -> x.most(p, 1, 1));
        }
        for (int p : new int[] {2, 3, 5, 7, 11}) {
            Check.due("23: by " + p + ", a row meets itself always", new AirParted().hops(p, 1, 1, 0), p);
        }
    }

    private static void hopsAtTheEndsOfShifts() {
        AirParted x = new AirParted();
        // By 5 row 1 is 0 1 4 4 1; shifted by 4 it is 1 0 1 4 4: alike at 3 alone.
        Check.due("23: by 5, shift 4", x.hops(5, 1, 1, 4), 1);
        // Row 4 is 0 4 1 1 4; shifted by 4 it is 4 0 4 1 1: alike at 2 and 4 of 0 1 4 4 1.
        Check.due("23: by 5, rows 1 and 4, shift 4", x.hops(5, 1, 4, 4), 2);
        Check.due("23: by 5, rows 1 and 4, shift 0", x.hops(5, 1, 4, 0), 1);
        Check.due("23: by 2, shift 0", x.hops(2, 1, 1, 0), 2);
        Check.due("23: by 2, shift 1", x.hops(2, 1, 1, 1), 0);
        Check.due("23: by 11, shift 10", x.hops(11, 10, 10, 10), 1);
    }

    private static void hopsWrap() {
        AirParted x = new AirParted();
        // By 3 row 2 is 0 2 2; shifted by 2: 2 0 2, beside row 2: alike at 2 alone.
        Check.due("23: by 3, row 2, shift 2", x.hops(3, 2, 2, 2), 1);
        // By 7 row 6 is 0 6 3 5 5 3 6; shifted by 3: 5 5 3 6 0 6 3: alike at 2 alone.
        Check.due("23: by 7, row 6, shift 3", x.hops(7, 6, 6, 3), 1);
        int sum = 0;
        for (int s = 0; s < 11; s++) {
            sum += x.hops(11, 3, 8, s);
        }
        int due = 0;
        for (int t = 0; t < 11; t++) {
            for (int u = 0; u < 11; u++) {
                due += 3 * t * t % 11 == 8 * u * u % 11 ? 1 : 0;
            }
        }
        Check.due("23: over all shifts each two times are beside each other once", sum, due);
    }

    // ---- promise 24

    private static void mostIsBounded() {
        for (int p : new int[] {2, 3, 5, 7, 11}) {
            Refusal.bounds("24: the one row by " + p, States::fresh, (x, v) -> x.most(p, v, 1), 1, p - 1);
            Refusal.bounds("24: the other row by " + p, States::fresh, (x, v) -> x.most(p, 1, v), 1, p - 1);
        }
        Refusal.bad("24: of a state with more", States::some, x -> x.most(7, 7, 7));
    }

    private static void mostOfOneRowWithItself() {
        AirParted x = new AirParted();
        for (int p : new int[] {3, 5, 7, 11}) {
            for (int a = 1; a < p; a++) {
                Check.due("24: by " + p + ", row " + a + ", all shifts but 0", x.most(p, a, a), 1);
            }
        }
    }

    private static void mostOfTwoRowsHasShift0Too() {
        AirParted x = new AirParted();
        // By 3 rows 1 and 2 meet once at shift 0 and never at 1 and 2.
        Check.due("23: at shift 1", x.hops(3, 1, 2, 1), 0);
        Check.due("23: at shift 2", x.hops(3, 1, 2, 2), 0);
        Check.due("24: by 3, rows 1 and 2", x.most(3, 1, 2), 1);
        Check.due("24: by 3, rows 2 and 1", x.most(3, 2, 1), 1);
        Check.due("24: by 5, rows 1 and 4", x.most(5, 1, 4), 2);
    }

    private static void mostOfTwo() {
        Check.due("24: by 2, the one row with itself", new AirParted().most(2, 1, 1), 0);
        Check.due("24: by 2, no row 2", new AirParted().most(2, 1, 2), BAD);
    }
}
