/** Promises 28 to 31: bid, call, won, pays. */
public final class HoursTest {
    public static void main(String[] args) {
        bids();
        ties();
        pays();
        Check.end();
    }

    private static AirParted withSender() {
        AirParted x = new AirParted();
        x.sender(0, 0, 1, 0, 1, 0);
        return x;
    }

    private static void bids() {
        AirParted x = withSender();
        int[][] bad = {{1, 1, 1}, {-1, 1, 1}, {0, 0, 1}, {0, 4096, 1}, {0, -1, 1}, {0, 1, 0}, {0, 1, 10001}, {0, 1, -5}};
        for (int[] b : bad) {
            Check.due("28: wrong bid", x.bid(b[0], b[1], b[2]), AirParted.BAD);
        }
        Check.due("30: none", x.won(), 0);
        Check.due("31: none", x.pays(0), AirParted.BAD);
        for (int i = 0; i < 8; i++) {
            Check.due("28: bid " + i, x.bid(0, i == 0 ? 4095 : 1 << i, i == 0 ? 10000 : 1), i);
        }
        Check.due("28: one more", x.bid(0, 1, 1), AirParted.FULL);
        Check.due("28: a wrong one more", x.bid(0, 0, 1), AirParted.BAD);
        Check.due("28: how many", x.count(2), 8);
        Check.due("30: all hours", x.won(), 1);
        Check.due("31: what the others bid", x.pays(0), 7);
        Check.due("31: who did not win", x.pays(7), 0);
        Check.due("31: bid 8", x.pays(8), AirParted.BAD);
        Check.due("31: bid -1", x.pays(-1), AirParted.BAD);
        Check.due("29: call", x.call(), 8);
        Check.due("29: call again", x.call(), 0);
        Check.due("29: none is left", x.count(2), 0);
        Check.due("31: none is left", x.pays(0), AirParted.BAD);
        Check.due("28: numbers from 0 again", x.bid(0, 2, 3), 0);
        Check.due("30: it wins", x.won(), 1);
        Check.due("31: for nothing", x.pays(0), 0);
    }

    private static void ties() {
        AirParted x = withSender();
        x.bid(0, 1, 5);
        x.bid(0, 2, 5);
        x.bid(0, 3, 10);
        Check.due("30: of like ones the fewest", x.won(), 4);
        x.call();
        x.bid(0, 1, 5);
        x.bid(0, 1, 5);
        x.bid(0, 2, 5);
        x.bid(0, 2, 5);
        Check.due("30: then the least as bits", x.won(), 5);
        x.call();
        x.bid(0, 7, 6);
        x.bid(0, 1, 4);
        x.bid(0, 6, 2);
        x.bid(0, 4, 3);
        Check.due("30: the greatest price", x.won(), 2 + 8);
    }

    private static void pays() {
        AirParted x = withSender();
        x.bid(0, 1, 9);
        x.bid(0, 1, 6);
        x.bid(0, 2, 4);
        Check.due("30: won", x.won(), 5);
        // Without 0 the others have 6 and 4; beside 0 they have 4.
        Check.due("31: as the second", x.pays(0), 6);
        Check.due("31: no other wants it", x.pays(2), 0);
        Check.due("31: not won", x.pays(1), 0);
        x.bid(0, 3, 12);
        // Won still 9 and 4; without 0: 12 alone is best, less 4; without 2: 12, less 9.
        Check.due("30: won still", x.won(), 5);
        Check.due("31: 12 less 4", x.pays(0), 8);
        Check.due("31: 12 less 9", x.pays(2), 3);
        x.call();
        x.bid(0, 1, 5);
        x.bid(0, 1, 5);
        Check.due("31: its whole bid where another is as high", x.pays(0), 5);
    }
}
