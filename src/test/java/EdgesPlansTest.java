/** Part 9 of the terms and promises 43 to 46, edge by edge: sites, ears, plans. */
public final class EdgesPlansTest {
    private static final int BAD = AirParted.BAD, FULL = AirParted.FULL;

    public static void main(String[] args) {
        siteIsBounded();
        strengthsRise();
        pricesDoNotFall();
        sixSitesAreAll();
        earIsBounded();
        twelveEarsAreAll();
        servesIsBounded();
        servesWithoutSitesOrEars();
        servesByFiguresOfThree();
        servedAtTheEdge();
        servedByTheMostOfOne();
        servedOfGreatNumbers();
        servedOverTheLand();
        theGreatestWorth();
        planIsBounded();
        planWithoutSitesOrEars();
        planWithinAPrice();
        planTheLeastPrice();
        planTheLeastAsFigures();
        planOfTheGreatestPrice();
        Check.end();
    }

    // ---- promise 43

    private static void siteIsBounded() {
        Refusal.bounds("43: cell", States::some, (x, v) -> x.site(v, 0, 1, 2, 1, 1), 0, States.CELLS - 1);
        Refusal.bounds("43: MAST", States::some, (x, v) -> x.site(0, v, 1, 2, 1, 1), 0, 20);
        Refusal.bounds("43: the first STRENGTH", States::some, (x, v) -> x.site(0, 0, v, 1000000, 1, 1), 1, 999999);
        Refusal.bounds("43: the second STRENGTH", States::some, (x, v) -> x.site(0, 0, 1, v, 1, 1), 2, 1000000);
        Refusal.bounds("43: the first price", States::some, (x, v) -> x.site(0, 0, 1, 2, v, 1000), 1, 1000);
        Refusal.bounds("43: the second price", States::some, (x, v) -> x.site(0, 0, 1, 2, 1, v), 1, 1000);
        Refusal.bounds("43: cell of a new object", States::fresh, (x, v) -> x.site(v, 0, 1, 2, 1, 1), 0, 99);
        Refusal.bad("43: both prices above the greatest", States::some, x -> x.site(0, 0, 1, 2, 1001, 1001));
        Refusal.bad("43: both prices 0", States::some, x -> x.site(0, 0, 1, 2, 0, 0));
        Refusal.bad("43: both STRENGTHS below the least", States::some, x -> x.site(0, 0, -1, 0, 1, 1));
        Refusal.bad("43: both STRENGTHS above the greatest", States::some, x -> x.site(0, 0, 1000001, 1000002, 1, 1));
    }

    private static void strengthsRise() {
        Refusal.bad("43: the first is the second", States::some, x -> x.site(0, 0, 5, 5, 1, 1));
        Refusal.bad("43: the first is above the second", States::some, x -> x.site(0, 0, 6, 5, 1, 1));
        Refusal.bad("43: both the greatest", States::some, x -> x.site(0, 0, 1000000, 1000000, 1, 1));
        Refusal.bad("43: both the least", States::some, x -> x.site(0, 0, 1, 1, 1, 1));
        Check.due("43: the first is one below the second", States.some().site(0, 0, 4, 5, 1, 1), States.SITES);
    }

    private static void pricesDoNotFall() {
        Refusal.bad("43: the price falls", States::some, x -> x.site(0, 0, 1, 2, 6, 5));
        Check.due("43: the price stays", States.some().site(0, 0, 1, 2, 5, 5), States.SITES);
        Check.due("43: the price rises", States.some().site(0, 0, 1, 2, 4, 5), States.SITES);
    }

    private static void sixSitesAreAll() {
        AirParted x = new AirParted();
        Check.due("43: a refused one", x.site(0, 0, 2, 2, 1, 1), BAD);
        for (int s = 0; s < 6; s++) {
            Check.due("43: SITE " + s + ", all on one cell", x.site(7, 0, 1, 2, 1, 1), s);
        }
        Check.due("43: a seventh", x.site(7, 0, 1, 2, 1, 1), FULL);
        Check.due("53: six", x.count(6), 6);
        Refusal.due("43: FULL", States::full, y -> y.site(0, 0, 1, 2, 1, 1), FULL);
        Refusal.bad("43: BAD ahead of FULL, cell", States::full, y -> y.site(30, 0, 1, 2, 1, 1));
        Refusal.bad("43: BAD ahead of FULL, MAST", States::full, y -> y.site(0, 21, 1, 2, 1, 1));
        Refusal.bad("43: BAD ahead of FULL, STRENGTHS", States::full, y -> y.site(0, 0, 2, 2, 1, 1));
        Refusal.bad("43: BAD ahead of FULL, prices", States::full, y -> y.site(0, 0, 1, 2, 2, 1));
    }

    // ---- promise 44

    private static void earIsBounded() {
        Refusal.bounds("44: cell", States::some, (x, v) -> x.ear(v, 1), 0, States.CELLS - 1);
        Refusal.bounds("44: WORTH", States::some, (x, v) -> x.ear(0, v), 1, 100);
        Refusal.bounds("44: cell of a new object", States::fresh, (x, v) -> x.ear(v, 1), 0, 99);
    }

    private static void twelveEarsAreAll() {
        AirParted x = new AirParted();
        Check.due("44: a refused one", x.ear(0, 0), BAD);
        for (int e = 0; e < 12; e++) {
            Check.due("44: EAR " + e + ", all on one cell", x.ear(7, 1), e);
        }
        Check.due("44: a thirteenth", x.ear(7, 1), FULL);
        Check.due("53: twelve", x.count(7), 12);
        Refusal.due("44: FULL", States::full, y -> y.ear(0, 1), FULL);
        Refusal.bad("44: BAD ahead of FULL, cell", States::full, y -> y.ear(-1, 1));
        Refusal.bad("44: BAD ahead of FULL, WORTH", States::full, y -> y.ear(0, 101));
    }

    // ---- promise 45

    private static void servesIsBounded() {
        int plans = 1;
        for (int s = 0; s <= 6; s++) {
            AirParted x = new AirParted();
            for (int k = 0; k < s; k++) {
                x.site(0, 0, 1, 2, 1, 1);
            }
            Check.due("45: the PLAN with all off, of " + s, x.serves(0), 0);
            Check.due("45: the last PLAN of " + s, x.serves(plans - 1), 0);
            Check.due("45: behind the last PLAN of " + s, x.serves(plans), BAD);
            Check.due("45: PLAN -1 of " + s, x.serves(-1), BAD);
            plans *= 3;
        }
        Refusal.bounds("45: PLAN of two SITES", States::some, (x, v) -> x.serves(v), 0, 8);
        Refusal.bounds("45: PLAN of six SITES", States::full, (x, v) -> x.serves(v), 0, 728);
        Refusal.bounds("45: PLAN of no SITES", States::fresh, (x, v) -> x.serves(v), 0, 0);
    }

    private static void servesWithoutSitesOrEars() {
        AirParted x = new AirParted();
        Check.due("45: nothing at all", x.serves(0), 0);
        x.ear(0, 100);
        Check.due("45: no SITES", x.serves(0), 0);
        AirParted y = new AirParted();
        y.site(0, 0, 1, 1000000, 1, 1);
        Check.due("45: no EARS", y.serves(2), 0);
        y.ear(0, 100);
        Check.due("45: a SITE that is off", y.serves(0), 0);
        Check.due("45: a SITE that is not", y.serves(1), 100);
        y.set(2, 1);
        y.set(4, 1);
        Check.due("45: a SITE that is off, with the least NOISE and LEVEL", y.serves(0), 0);
        AirParted z = new AirParted();
        z.land(20, 1);
        z.set(2, 1);
        z.set(4, 1);
        z.site(0, 0, 1, 2, 1, 1);
        z.ear(19, 100);
        Check.due("45: GOT of 0, with the least NOISE and LEVEL", z.serves(1), 0);
    }

    private static void servesByFiguresOfThree() {
        AirParted x = new AirParted();
        x.land(20, 1);
        x.set(2, 10000);
        int figures = 1;
        for (int s = 0; s < 6; s++) {
            // With the second STRENGTH alone the EAR on its cell has NOISE and more.
            x.site(3 * s, 0, 1, 101, 1, 1);
            x.ear(3 * s, 1 + s);
        }
        for (int s = 0; s < 6; s++) {
            Check.due("45: SITE " + s + " off", x.serves(0), 0);
            Check.due("45: SITE " + s + " with its first", x.serves(figures), 0);
            Check.due("45: SITE " + s + " with its second", x.serves(2 * figures), 1 + s);
            figures *= 3;
        }
    }

    private static void servedAtTheEdge() {
        AirParted x = new AirParted();
        x.site(0, 0, 1, 2, 1, 1);
        x.ear(0, 7);
        // 100 times 100 to LEVEL times NOISE 10.
        x.set(4, 1000);
        Check.due("45: LEVEL 1000: 10000 to 10000", x.serves(1), 7);
        x.set(4, 1001);
        Check.due("45: LEVEL 1001: 10000 to 10010", x.serves(1), 0);
        x.set(4, 1);
        x.set(2, 10000);
        Check.due("45: LEVEL 1, NOISE 10000: 10000 to 10000", x.serves(1), 7);
        x.set(4, 2);
        Check.due("45: LEVEL 2, NOISE 10000", x.serves(1), 0);
        Check.due("45: LEVEL 2, the second STRENGTH", x.serves(2), 7);
        x.set(4, 10000);
        x.set(2, 1);
        Check.due("45: LEVEL 10000, NOISE 1", x.serves(1), 7);
        x.set(2, 2);
        Check.due("45: LEVEL 10000, NOISE 2", x.serves(1), 0);
        AirParted y = new AirParted();
        y.site(0, 0, 1, 2, 1, 1);
        y.ear(3, 7);
        Check.due("45: LEVEL is 100 at first: 10 to NOISE 10", y.serves(1), 7);
        y.set(2, 11);
        Check.due("45: 10 to NOISE 11", y.serves(1), 0);
    }

    private static void servedByTheMostOfOne() {
        AirParted x = new AirParted();
        x.set(2, 1);
        x.site(0, 0, 1, 2, 1, 1);
        x.site(0, 0, 1, 2, 1, 1);
        x.ear(0, 7);
        Check.due("45: 100 to 100 and 1", x.serves(1 + 3), 0);
        Check.due("45: 200 to 100 and 1", x.serves(2 + 3), 7);
        Check.due("45: 200 to 100 and 1, the other", x.serves(1 + 6), 7);
        Check.due("45: 200 to 200 and 1", x.serves(2 + 6), 0);
        x.site(0, 0, 1, 2, 1, 1);
        Check.due("45: 200 to 100, 100 and 1", x.serves(2 + 3 + 9), 0);
        x.set(4, 99);
        Check.due("45: LEVEL 99: 20000 to 19899", x.serves(2 + 3 + 9), 7);
        x.set(2, 3);
        Check.due("45: LEVEL 99: 20000 to 20097", x.serves(2 + 3 + 9), 0);
    }

    private static void servedOfGreatNumbers() {
        AirParted x = new AirParted();
        for (int s = 0; s < 6; s++) {
            x.site(0, 0, 999999, 1000000, 1, 1);
        }
        x.ear(0, 7);
        x.set(4, 1000000);
        Check.due("45: the greatest LEVEL, 10000000000 to 10000000 ", x.serves(2), 7);
        x.set(2, 10000);
        Check.due("45: the greatest LEVEL and NOISE: both 10000000000", x.serves(2), 7);
        Check.due("45: one less", x.serves(1), 0);
        Check.due("45: six of the greatest", x.serves(728), 0);
        x.set(2, 1);
        x.set(4, 20);
        // 10000000000 to 20 times 500000001, to 19 times it.
        Check.due("45: one of six, beyond ints", x.serves(728), 0);
        x.set(4, 19);
        Check.due("45: one of six, HEARD beyond ints", x.serves(728), 7);
    }

    private static void servedOverTheLand() {
        AirParted x = new AirParted();
        x.land(3, 1);
        x.sheet(0, 0, 3);
        x.put(0, 0, 1, 20);
        // 100000 by 205 is 487 with MAST 20, by 405 it is 246 with none.
        x.site(0, 20, 1000, 1001, 1, 1);
        x.site(0, 0, 1000, 1001, 1, 1);
        x.ear(2, 7);
        x.set(4, 4870);
        Check.due("45: with its MAST", x.serves(1), 7);
        x.set(4, 4871);
        Check.due("45: and no more", x.serves(1), 0);
        x.set(4, 2460);
        Check.due("45: without a MAST", x.serves(3), 7);
        x.set(4, 2461);
        Check.due("45: and no more", x.serves(3), 0);
        x.put(0, 0, 0, 1);
        x.set(4, 2590);
        // From 1 to 0 the line is at a half: 19 and a half above, cut: 100000 by 385 is 259.
        Check.due("45: from a HILL of 1, to MAST 0", x.serves(3), 7);
        x.set(4, 2591);
        Check.due("45: and no more", x.serves(3), 0);
        x.lose(0);
        x.set(4, 200000);
        Check.due("45: UNKNOWN ground is 0, MOOD 0", x.serves(1), 7);
        x.set(4, 200001);
        Check.due("45: and no more", x.serves(1), 0);
    }

    private static void theGreatestWorth() {
        AirParted x = new AirParted();
        x.site(0, 0, 1, 2, 1, 1);
        for (int e = 0; e < 12; e++) {
            x.ear(0, 100);
        }
        Check.due("45: twelve EARS of 100", x.serves(1), 1200);
        Check.due("46: twelve EARS of 100", x.plan(1, 1), 1200);
    }

    // ---- promise 46

    private static void planIsBounded() {
        Refusal.bounds("46: price", States::some, (x, v) -> x.plan(v, 0), 0, 10000);
        Refusal.bounds("46: what", States::some, (x, v) -> x.plan(60, v), 0, 2);
        Refusal.bounds("46: price, no SITES", States::fresh, (x, v) -> x.plan(v, 2), 0, 10000);
        Refusal.bounds("46: what, no SITES", States::fresh, (x, v) -> x.plan(0, v), 0, 2);
    }

    private static void plan(String what, AirParted x, int price, int plan, int worth, int costs) {
        Check.due("46: " + what + ", THE PLAN within " + price, x.plan(price, 0), plan);
        Check.due("46: " + what + ", its WORTH within " + price, x.plan(price, 1), worth);
        Check.due("46: " + what + ", its price within " + price, x.plan(price, 2), costs);
    }

    private static void planWithoutSitesOrEars() {
        plan("nothing at all", new AirParted(), 10000, 0, 0, 0);
        AirParted x = new AirParted();
        x.ear(0, 9);
        plan("no SITES", x, 10000, 0, 0, 0);
        AirParted y = new AirParted();
        y.site(0, 0, 1, 2, 1, 1);
        plan("no EARS", y, 10000, 0, 0, 0);
        y.ear(99, 9);
        plan("an EAR that none can serve", y, 10000, 0, 0, 0);
    }

    private static void planWithinAPrice() {
        AirParted x = new AirParted();
        x.site(0, 0, 1, 20, 30, 50);
        x.ear(0, 5);
        x.ear(3, 6);
        x.set(2, 50);
        // The first serves the EAR on its cell; the second has 200 three off, the other one too.
        plan("nothing to spend", x, 0, 0, 0, 0);
        plan("one too few", x, 29, 0, 0, 0);
        plan("just the first", x, 30, 1, 5, 30);
        plan("one too few for the second", x, 49, 1, 5, 30);
        plan("just the second", x, 50, 2, 11, 50);
        plan("the greatest", x, 10000, 2, 11, 50);
    }

    private static void planTheLeastPrice() {
        AirParted x = new AirParted();
        x.site(0, 0, 1, 2, 9, 9);
        x.site(0, 0, 1, 2, 5, 9);
        x.site(0, 0, 1, 2, 7, 9);
        x.ear(0, 3);
        plan("of like WORTH the least price", x, 10000, 3, 3, 5);
        plan("too few for any", x, 4, 0, 0, 0);
        AirParted y = new AirParted();
        y.site(0, 0, 1, 20, 5, 6);
        y.ear(0, 3);
        y.ear(3, 1);
        y.set(2, 50);
        plan("the most WORTH ahead of the least price", y, 10000, 2, 4, 6);
    }

    private static void planTheLeastAsFigures() {
        AirParted x = new AirParted();
        x.site(0, 0, 1, 2, 5, 5);
        x.site(0, 0, 1, 2, 5, 5);
        x.ear(0, 3);
        plan("the first STRENGTH of SITE 0, the lowest figure", x, 10000, 1, 3, 5);
        AirParted y = new AirParted();
        y.site(0, 0, 1, 20, 6, 6);
        y.site(0, 0, 1, 20, 3, 5);
        y.site(0, 0, 1, 20, 3, 5);
        y.ear(0, 3);
        plan("SITE 1 ahead of SITE 2", y, 10000, 3, 3, 3);
        AirParted z = new AirParted();
        z.site(0, 0, 1, 2, 5, 5);
        z.site(99, 0, 1, 2, 5, 5);
        z.ear(0, 1);
        z.ear(99, 1);
        plan("both, each with its first", z, 10, 4, 2, 10);
        plan("the lower one alone", z, 9, 1, 1, 5);
    }

    private static void planOfTheGreatestPrice() {
        AirParted x = new AirParted();
        x.land(20, 1);
        x.set(2, 50);
        for (int s = 0; s < 6; s++) {
            x.site(3 * s, 0, 1, 2, 1000, 1000);
            x.ear(3 * s, 10);
        }
        plan("all six", x, 6000, 364, 60, 6000);
        plan("all six but one", x, 5999, 1 + 3 + 9 + 27 + 81, 50, 5000);
        plan("all six for more", x, 10000, 364, 60, 6000);
    }
}
