import java.math.BigInteger;

/** Promises 21 to 24: odds, flow, hops, most. */
public final class WordsTest {
    public static void main(String[] args) {
        odds();
        flow();
        hops();
        most();
        Check.end();
    }

    private static BigInteger chance(int n, int from, int to, int p) {
        BigInteger sum = BigInteger.ZERO;
        for (int way = 0; way < 1 << n; way++) {
            int k = Integer.bitCount(way);
            if (k >= from && k <= to) {
                sum = sum.add(BigInteger.valueOf(p).pow(k).multiply(BigInteger.valueOf(100 - p).pow(n - k)));
            }
        }
        return sum.multiply(BigInteger.valueOf(1000000)).divide(BigInteger.valueOf(100).pow(n));
    }

    private static void odds() {
        AirParted x = new AirParted();
        for (int n = 1; n <= 8; n++) {
            for (int t = 0; t <= n; t++) {
                x = new AirParted();
                for (int p = 0; p <= 100; p++) {
                    Check.due("21: odds(" + n + ", " + t + ", " + p + ")", x.odds(n, t, p), chance(n, 0, t, p).longValue());
                }
            }
        }
        // 99 hundredths to the eighth: 0.9227446944..
        Check.due("21: rounded down", x.odds(8, 0, 1), 922744);
        int[][] bad = {{0, 0, 0}, {9, 0, 0}, {1, -1, 0}, {1, 2, 0}, {8, 9, 0}, {1, 0, -1}, {1, 0, 101}, {Integer.MIN_VALUE, 0, 0}};
        for (int[] b : bad) {
            Check.due("21: wrong odds", x.odds(b[0], b[1], b[2]), AirParted.BAD);
        }
    }

    private static void flow() {
        AirParted x = new AirParted();
        for (int m = 1; m <= 8; m++) {
            x = new AirParted();
            for (int r = 0; r <= m; r++) {
                for (int p = 0; p <= 100; p += 7) {
                    int q = chance(5, 0, 2, p).intValue() / 10000;
                    Check.due("22: flow of " + m + ", " + r + ", " + p, x.flow(5, 2, p, m, r), chance(m, r, m, q).longValue());
                }
            }
        }
        // 0.999999 is cut to 99 hundredths: 0.99 to the second.
        Check.due("22: odds just below one", x.odds(4, 1, 0), 1000000);
        Check.due("22: one bit, 3 in 100 wrong", x.flow(1, 0, 3, 2, 2), 940900);
        // 0.99 to the third is 0.970299, cut 97 hundredths.
        Check.due("22: hundredths are cut", x.flow(3, 0, 1, 1, 1), 970000);
        Check.due("22: none must be read", x.flow(8, 0, 100, 8, 0), 1000000);
        Check.due("22: none is read", x.flow(8, 0, 100, 8, 1), 0);
        int[][] bad = {{0, 0, 0, 1, 0}, {9, 0, 0, 1, 0}, {1, 2, 0, 1, 0}, {1, -1, 0, 1, 0}, {1, 0, 101, 1, 0}, {1, 0, -1, 1, 0},
            {1, 0, 0, 0, 0}, {1, 0, 0, 9, 0}, {1, 0, 0, 8, 9}, {1, 0, 0, 1, -1}, {1, 0, 0, 1, 2}};
        for (int[] b : bad) {
            Check.due("22: wrong flow", x.flow(b[0], b[1], b[2], b[3], b[4]), AirParted.BAD);
        }
    }

    private static void hops() {
        AirParted x = new AirParted();
        // Row 1 of 5: 0 1 4 4 1; row 2 of 5: 0 2 3 3 2.
        Check.due("23: unlike rows meet at 0", x.hops(5, 1, 2, 0), 1);
        Check.due("23: a row meets itself", x.hops(5, 1, 1, 0), 5);
        // 0 1 4 4 1 and 1 4 4 1 0: at 2 alone.
        Check.due("23: a row meets itself shifted", x.hops(5, 1, 1, 1), 1);
        // 0 1 4 4 1 and 2 3 3 2 0: never.
        Check.due("23: never", x.hops(5, 1, 2, 1), 0);
        // Row 4 of 5: 0 4 1 1 4; shifted by 1: 4 1 1 4 0: at 1 and 3.
        Check.due("23: twice", x.hops(5, 1, 4, 1), 2);
        Check.due("23: of two", x.hops(2, 1, 1, 1), 0);
        int[][] bad = {{4, 1, 1, 0}, {1, 1, 1, 0}, {0, 1, 1, 0}, {13, 1, 1, 0}, {-2, 1, 1, 0}, {5, 0, 1, 0}, {5, 5, 1, 0}, {5, 1, 0, 0},
            {5, 1, 5, 0}, {5, 1, 1, -1}, {5, 1, 1, 5}, {2, 1, 1, 2}, {9, 1, 1, 1}, {6, 1, 1, 0}, {8, 1, 1, 0}, {10, 1, 1, 0}};
        for (int[] b : bad) {
            Check.due("23: wrong hops", x.hops(b[0], b[1], b[2], b[3]), AirParted.BAD);
        }
    }

    private static void most() {
        AirParted x = new AirParted();
        int[] primes = {2, 3, 5, 7, 11};
        for (int p : primes) {
            for (int a = 1; a < p; a++) {
                x = new AirParted();
                for (int b = 1; b < p; b++) {
                    int due = 0;
                    for (int s = a == b ? 1 : 0; s < p; s++) {
                        due = Math.max(due, x.hops(p, a, b, s));
                    }
                    Check.due("24: most(" + p + ", " + a + ", " + b + ")", x.most(p, a, b), due);
                }
            }
        }
        Check.due("24: of one row with itself all shifts but 0", x.most(11, 4, 4), 1);
        Check.due("24: twice", x.most(5, 1, 4), 2);
        int[][] bad = {{4, 1, 1}, {0, 1, 1}, {13, 1, 1}, {5, 0, 1}, {5, 5, 1}, {5, 1, 0}, {5, 1, 5}, {Integer.MIN_VALUE, 1, 1}};
        for (int[] b : bad) {
            Check.due("24: wrong most", x.most(b[0], b[1], b[2]), AirParted.BAD);
        }
    }
}
