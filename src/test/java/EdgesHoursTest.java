/** Part 6 of the terms and promises 28 to 31, edge by edge: bids, who won, what each pays. */
public final class EdgesHoursTest {
    private static final int BAD = AirParted.BAD, FULL = AirParted.FULL;

    public static void main(String[] args) {
        bidIsBounded();
        eightBidsAreAll();
        bidsOfOffOnes();
        callOfNoneAndOfAll();
        callBeginsAnew();
        wonOfNone();
        wonOfAllAndOfTheLast();
        wonShareNoHour();
        wonTheGreatestPrice();
        wonOfLikePriceTheFewest();
        wonOfLikeOnesTheLeastAsBits();
        paysIsBounded();
        paysOfWhoDidNotWin();
        paysWithoutRivals();
        paysTheWorthOfTheOthers();
        paysOfAllHours();
        Check.end();
    }

    /** One SENDER, and its BIDS: hours, price, hours, price .. */
    private static AirParted with(int... bids) {
        AirParted x = new AirParted();
        x.sender(0, 0, 1, 0, 1, 0);
        for (int i = 0; i < bids.length; i += 2) {
            x.bid(0, bids[i], bids[i + 1]);
        }
        return x;
    }

    // ---- promise 28

    private static void bidIsBounded() {
        Refusal.bounds("28: SENDER", States::some, (x, v) -> x.bid(v, 1, 1), 0, States.SENDERS - 1);
        Refusal.bounds("28: hours", States::some, (x, v) -> x.bid(0, v, 1), 1, 4095);
        Refusal.bounds("28: price", States::some, (x, v) -> x.bid(0, 1, v), 1, 10000);
        Refusal.bad("28: no hour", States::some, x -> x.bid(0, 0, 1));
        Refusal.bad("28: hour 12", States::some, x -> x.bid(0, 1 << 12, 1));
        Refusal.bad("28: hour 12 beside hour 0", States::some, x -> x.bid(0, 1 << 12 | 1, 1));
        Refusal.bad("28: hour 31 beside hour 0", States::some, x -> x.bid(0, Integer.MIN_VALUE | 1, 1));
        Refusal.bad("28: no SENDERS", States::fresh, x -> x.bid(0, 1, 1));
        for (int hour = 0; hour < 12; hour++) {
            Check.due("28: hour " + hour, with().bid(0, 1 << hour, 1), 0);
        }
    }

    private static void eightBidsAreAll() {
        AirParted x = with();
        Check.due("28: a refused one", x.bid(0, 0, 1), BAD);
        for (int b = 0; b < 8; b++) {
            Check.due("28: BID " + b, x.bid(0, 1, 1), b);
        }
        Check.due("28: a ninth", x.bid(0, 1, 1), FULL);
        Check.due("53: eight", x.count(2), 8);
        Refusal.due("28: FULL", States::full, y -> y.bid(0, 1, 1), FULL);
        Refusal.bad("28: BAD ahead of FULL, SENDER", States::full, y -> y.bid(20, 1, 1));
        Refusal.bad("28: BAD ahead of FULL, hours", States::full, y -> y.bid(0, 0, 1));
        Refusal.bad("28: BAD ahead of FULL, price", States::full, y -> y.bid(0, 1, 10001));
    }

    private static void bidsOfOffOnes() {
        AirParted x = with();
        x.on(0, false);
        Check.due("28: an OFF one bids too", x.bid(0, 4095, 10000), 0);
        Check.due("30: and wins", x.won(), 1);
    }

    // ---- promise 29

    private static void callOfNoneAndOfAll() {
        Check.due("29: of none", new AirParted().call(), 0);
        Check.due("29: of one", with(1, 1).call(), 1);
        Check.due("29: of eight", States.full().call(), 8);
        AirParted x = States.full();
        x.call();
        Check.due("29: again", x.call(), 0);
        Check.due("53: none is left", x.count(2), 0);
        Check.due("30: none WON then", x.won(), 0);
        Check.due("31: none is there then", x.pays(0), BAD);
    }

    private static void callBeginsAnew() {
        AirParted x = with(4095, 10000, 1, 7, 2, 8);
        x.call();
        Check.due("28: numbers from 0 again", x.bid(0, 1, 5), 0);
        Check.due("30: none of the old ones", x.won(), 1);
        Check.due("31: none of the old ones", x.pays(0), 0);
        Check.due("31: nor their numbers", x.pays(1), BAD);
        for (int b = 1; b < 8; b++) {
            Check.due("28: eight again", x.bid(0, 1 << b, 1), b);
        }
        Check.due("28: and no more", x.bid(0, 1, 1), FULL);
    }

    // ---- promise 30

    private static void wonOfNone() {
        Check.due("30: no BIDS, no SENDERS", new AirParted().won(), 0);
        Check.due("30: no BIDS", with().won(), 0);
    }

    private static void wonOfAllAndOfTheLast() {
        AirParted x = with();
        for (int b = 0; b < 8; b++) {
            x.bid(0, 1 << b, 10000);
        }
        Check.due("30: all eight", x.won(), 255);
        Check.due("30: the last of eight", with(1, 1, 1, 2, 1, 3, 1, 4, 1, 5, 1, 6, 1, 7, 1, 8).won(), 128);
        Check.due("30: the least price", with(2048, 1).won(), 1);
    }

    private static void wonShareNoHour() {
        Check.due("30: hours beside each other", with(1, 5, 2, 5).won(), 3);
        Check.due("30: one hour in common", with(3, 5, 6, 6).won(), 2);
        Check.due("30: the last hour in common", with(2049, 5, 2050, 6).won(), 2);
        Check.due("30: three, of which two share with none of both", with(1, 5, 2, 5, 3, 9).won(), 3);
        Check.due("30: all hours in halves", with(0x3F, 5, 0xFC0, 5, 4095, 9).won(), 3);
    }

    private static void wonTheGreatestPrice() {
        Check.due("30: one of more than two together", with(1, 5, 2, 5, 3, 11).won(), 4);
        Check.due("30: two of more than one", with(1, 5, 2, 6, 3, 10).won(), 3);
        Check.due("30: not the dearest one", with(7, 10, 1, 4, 2, 4, 4, 4).won(), 2 + 4 + 8);
    }

    private static void wonOfLikePriceTheFewest() {
        Check.due("30: one rather than two", with(1, 5, 2, 5, 3, 10).won(), 4);
        Check.due("30: two rather than three", with(1, 3, 2, 3, 4, 4, 3, 6).won(), 4 + 8);
    }

    private static void wonOfLikeOnesTheLeastAsBits() {
        Check.due("30: the first of two", with(1, 5, 1, 5).won(), 1);
        Check.due("30: the first of eight", with(1, 5, 1, 5, 1, 5, 1, 5, 1, 5, 1, 5, 1, 5, 1, 5).won(), 1);
        Check.due("30: the least of two pairs", with(1, 5, 3, 4, 2, 5, 1, 5, 2, 5).won(), 5);
        // 1 and 2 are 10 as bits; 4 and 8 are 10 too: as bits 3 and 12.
        Check.due("30: the lower pair", with(1, 4, 2, 6, 1, 4, 2, 6).won(), 3);
        Check.due("30: the lower of crossed pairs", with(3, 7, 1, 4, 2, 6, 3, 10, 3, 10).won(), 8);
    }

    // ---- promise 31

    private static void paysIsBounded() {
        Refusal.bounds("31: BID", States::some, (x, v) -> x.pays(v), 0, States.BIDS - 1);
        Refusal.bounds("31: BID of eight", States::full, (x, v) -> x.pays(v), 0, 7);
        Refusal.bad("31: no BIDS", States::fresh, x -> x.pays(0));
    }

    private static void paysOfWhoDidNotWin() {
        AirParted x = with(1, 5, 1, 6, 1, 6);
        Check.due("31: the lower one", x.pays(0), 0);
        Check.due("31: the like one", x.pays(2), 0);
        Check.due("31: the one that WON", x.pays(1), 6);
    }

    private static void paysWithoutRivals() {
        Check.due("31: the only one", with(4095, 10000).pays(0), 0);
        AirParted x = with(1, 10000, 2, 10000, 4, 10000, 8, 10000, 16, 10000, 32, 10000, 64, 10000, 128, 10000);
        for (int b = 0; b < 8; b++) {
            Check.due("31: none of eight is in another's way", x.pays(b), 0);
        }
    }

    private static void paysTheWorthOfTheOthers() {
        AirParted x = with(1, 9, 1, 6);
        Check.due("31: the second price", x.pays(0), 6);
        AirParted y = with(3, 10, 6, 18, 12, 10, 8, 1);
        Check.due("31: 19 without it, less 10", y.pays(0), 9);
        Check.due("31: 19 without it, less 10, the other", y.pays(2), 9);
        Check.due("31: who would win without one of them", y.pays(1), 0);
        Check.due("31: its own price at most", with(1, 5, 1, 5).pays(0), 5);
        // Without 0 the others have 3 and 4; beside it they have 4.
        Check.due("31: the others that WON are beside it still", with(1, 5, 1, 3, 2, 4).pays(0), 3);
        Check.due("31: nothing for an hour that none else wants", with(1, 5, 1, 3, 2, 4).pays(2), 0);
    }

    private static void paysOfAllHours() {
        AirParted x = with(4095, 10000, 1, 1000, 2, 1000, 4, 1000, 8, 1000, 16, 1000, 32, 1000, 64, 1000);
        Check.due("30: one for all hours", x.won(), 1);
        Check.due("31: for all the others", x.pays(0), 7000);
        AirParted y = with(4095, 7000, 1, 1000, 2, 1000, 4, 1000, 8, 1000, 16, 1000, 32, 1000, 64, 1000);
        Check.due("30: one rather than seven of like price", y.won(), 1);
        Check.due("31: all that it bid", y.pays(0), 7000);
        AirParted z = with(4095, 6999, 1, 1000, 2, 1000, 4, 1000, 8, 1000, 16, 1000, 32, 1000, 64, 1000);
        Check.due("30: seven rather than one of a lower price", z.won(), 254);
        Check.due("31: 6999 less 6000", z.pays(7), 999);
    }
}
