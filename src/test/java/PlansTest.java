/** Promises 43 to 46: site, ear, serves, plan. */
public final class PlansTest {
    public static void main(String[] args) {
        sites();
        ears();
        serves();
        level();
        plans();
        ties();
        full();
        Check.end();
    }

    private static void sites() {
        AirParted x = new AirParted();
        int[][] bad = {{-1, 0, 1, 2, 1, 1}, {100, 0, 1, 2, 1, 1}, {0, -1, 1, 2, 1, 1}, {0, 21, 1, 2, 1, 1}, {0, 0, 0, 2, 1, 1},
            {0, 0, 2, 2, 1, 1}, {0, 0, 3, 2, 1, 1}, {0, 0, 1, 1000001, 1, 1}, {0, 0, 1, 2, 0, 1}, {0, 0, 1, 2, 2, 1}, {0, 0, 1, 2, 1, 1001},
            {0, 0, 1, 2, 1001, 1001}};
        for (int[] b : bad) {
            Check.due("43: wrong site", x.site(b[0], b[1], b[2], b[3], b[4], b[5]), AirParted.BAD);
        }
        for (int s = 0; s < 6; s++) {
            Check.due("43: site " + s, x.site(99, 20, 999999, 1000000, 1000, 1000), s);
        }
        Check.due("43: one more", x.site(0, 0, 1, 2, 1, 1), AirParted.FULL);
        Check.due("43: a wrong one more", x.site(0, 0, 2, 2, 1, 1), AirParted.BAD);
        Check.due("43: how many", x.count(6), 6);
        Check.due("45: the last plan", x.serves(728), 0);
        Check.due("45: behind it", x.serves(729), AirParted.BAD);
    }

    private static void ears() {
        AirParted x = new AirParted();
        int[][] bad = {{-1, 1}, {100, 1}, {0, 0}, {0, 101}};
        for (int[] b : bad) {
            Check.due("44: wrong ear", x.ear(b[0], b[1]), AirParted.BAD);
        }
        for (int e = 0; e < 12; e++) {
            Check.due("44: ear " + e, x.ear(99, 100), e);
        }
        Check.due("44: one more", x.ear(0, 1), AirParted.FULL);
        Check.due("44: a wrong one more", x.ear(0, 0), AirParted.BAD);
        Check.due("44: how many", x.count(7), 12);
        Check.due("45: without sites", x.serves(0), 0);
        Check.due("45: without sites, plan 1", x.serves(1), AirParted.BAD);
        Check.due("46: without sites", x.plan(10000, 0) + x.plan(10000, 1) + x.plan(10000, 2), 0);
        x.site(99, 0, 1, 2, 3, 4);
        Check.due("45: all on one cell", x.serves(1), 1200);
    }

    private static void serves() {
        AirParted x = new AirParted();
        x.land(11, 1);
        // 100 by 101 ten off is 0; 400 by 101 is 3; five off 3 and 15.
        x.site(0, 0, 1, 4, 1, 2);
        x.site(10, 0, 1, 4, 1, 2);
        x.ear(0, 1);
        x.ear(10, 2);
        x.ear(5, 4);
        int[] due = {0, 1, 1 + 4, 2, 1 + 2, 1 + 2 + 4, 2 + 4, 1 + 2 + 4, 1 + 2};
        for (int p = 0; p < 9; p++) {
            // In the middle: plan 5 has 15 against NOISE 10 and 3: served; plan 8 has 15 against 25: not.
            Check.due("45: plan " + p, x.serves(p), due[p]);
        }
        Check.due("45: plan -1", x.serves(-1), AirParted.BAD);
        Check.due("45: plan 9", x.serves(9), AirParted.BAD);
    }

    private static void level() {
        AirParted x = new AirParted();
        x.land(2, 1);
        x.site(0, 0, 1, 2, 1, 1);
        x.ear(0, 1);
        // 100 got: 100 times 100 is 10 times LEVEL 1000.
        x.set(4, 1000);
        Check.due("45: just enough", x.serves(1), 1);
        x.set(4, 1001);
        Check.due("45: not enough", x.serves(1), 0);
        Check.due("45: twice as strong", x.serves(2), 1);
        x.set(2, 20);
        Check.due("45: with more noise", x.serves(2), 0);
        AirParted y = new AirParted();
        y.land(5, 1);
        y.site(0, 20, 1, 40, 1, 1);
        y.ear(2, 1);
        y.sheet(0, 0, 5);
        y.put(0, 0, 1, 30);
        // The mast is seen half way at 10: 4000 by 5 and 400 is 9, below NOISE; by 5 it is 800.
        Check.due("45: over a hill", y.serves(2), 0);
        y.put(0, 0, 1, 10);
        Check.due("45: over a lower one", y.serves(2), 1);
        y.put(0, 0, 1, -1);
        Check.due("45: over what is unknown", y.serves(2), 1);
    }

    private static void plans() {
        AirParted x = new AirParted();
        x.land(11, 1);
        x.site(0, 0, 1, 4, 10, 25);
        x.site(10, 0, 1, 4, 10, 30);
        x.ear(0, 1);
        x.ear(10, 2);
        x.ear(5, 4);
        int[] prices = {0, 9, 10, 19, 20, 24, 25, 29, 30, 34, 35, 39, 40, 54, 55, 10000};
        int[] due = {0, 0, 3, 3, 4, 4, 2, 2, 6, 6, 5, 5, 5, 5, 5, 5};
        int[] worth = {0, 0, 2, 2, 3, 3, 5, 5, 6, 6, 7, 7, 7, 7, 7, 7};
        int[] costs = {0, 0, 10, 10, 20, 20, 25, 25, 30, 30, 35, 35, 35, 35, 35, 35};
        for (int i = 0; i < prices.length; i++) {
            Check.due("46: plan within " + prices[i], x.plan(prices[i], 0), due[i]);
            Check.due("46: its worth within " + prices[i], x.plan(prices[i], 1), worth[i]);
            Check.due("46: its price within " + prices[i], x.plan(prices[i], 2), costs[i]);
        }
        int[][] bad = {{-1, 0}, {10001, 0}, {0, -1}, {0, 3}};
        for (int[] b : bad) {
            Check.due("46: wrong plan", x.plan(b[0], b[1]), AirParted.BAD);
        }
    }

    private static void ties() {
        AirParted x = new AirParted();
        x.land(1, 1);
        x.site(0, 0, 1, 2, 7, 7);
        x.site(0, 0, 1, 2, 5, 5);
        x.site(0, 0, 1, 2, 5, 6);
        Check.due("46: without ears", x.plan(10000, 0), 0);
        x.ear(0, 9);
        Check.due("46: of like worth the least price, then the least", x.plan(10000, 0), 3);
        Check.due("46: its worth", x.plan(10000, 1), 9);
        Check.due("46: its price", x.plan(10000, 2), 5);
        Check.due("46: too dear", x.plan(4, 0), 0);
    }

    private static void full() {
        AirParted x = new AirParted();
        x.land(20, 1);
        for (int s = 0; s < 6; s++) {
            x.site(3 * s, 0, 1, 2, 1000, 1000);
            x.ear(3 * s, 10);
        }
        // 100 on the cell, against 50 and 10, 10, 2, .. of others; 20 of the next, even with its second, are too few.
        x.set(2, 50);
        Check.due("46: all", x.plan(10000, 0), 1 + 3 + 9 + 27 + 81 + 243);
        Check.due("46: all that 3999 buys", x.plan(3999, 0), 1 + 3 + 9);
        Check.due("46: its worth", x.plan(3999, 1), 30);
    }
}
