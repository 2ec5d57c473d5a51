/** Promises 1 to 6: a new object, land, ground, set, loss, pass. */
public final class LandTest {
    public static void main(String[] args) {
        newObject();
        land();
        ground();
        set();
        lossOverOpenLand();
        lossOverHills();
        lossOverWoods();
        lossWrong();
        pass();
        Check.end();
    }

    private static void newObject() {
        AirParted x = new AirParted();
        int[] due = {0, 0, 0, 0, 0, 0, 0, 0, 0, 0, 10, 10};
        for (int what = 0; what < due.length; what++) {
            Check.due("1: count(" + what + ") of a new object", x.count(what), due[what]);
        }
        for (int s = 0; s < 6; s++) {
            Check.due("1: lose(" + s + ") of a new object", x.lose(s), -11);
        }
        Check.due("1: about(0, 0) of a new object", x.about(0, 0), Integer.MIN_VALUE);
        Check.due("1: fault() of a new object", x.fault(), 0);
    }

    private static void land() {
        AirParted x = new AirParted();
        Check.due("2: land(1, 1)", x.land(1, 1), 1);
        Check.due("2: land(20, 20)", x.land(20, 20), 1);
        Check.due("2: land(3, 7)", x.land(3, 7), 1);
        int[][] bad = {{0, 5}, {5, 0}, {21, 5}, {5, 21}, {-1, 5}, {5, Integer.MIN_VALUE}, {Integer.MAX_VALUE, 1}};
        for (int[] b : bad) {
            Check.due("2: land(" + b[0] + ", " + b[1] + ")", x.land(b[0], b[1]), AirParted.BAD);
        }
        Check.due("2: W", x.count(10), 3);
        Check.due("2: H", x.count(11), 7);
        Check.due("2: last cell", x.ground(20, 0), AirParted.NONE);
        Check.due("2: behind the last cell", x.ground(21, 0), AirParted.BAD);
        AirParted withSender = new AirParted();
        withSender.sender(0, 0, 1, 0, 1, 0);
        Check.due("2: land with a sender", withSender.land(3, 3), AirParted.NOT);
        Check.due("2: bad land with a sender", withSender.land(0, 3), AirParted.BAD);
        AirParted withBox = new AirParted();
        withBox.box(0);
        Check.due("2: land with a box", withBox.land(3, 3), AirParted.NOT);
        AirParted withSite = new AirParted();
        withSite.site(0, 0, 1, 2, 1, 1);
        Check.due("2: land with a site", withSite.land(3, 3), AirParted.NOT);
        AirParted withEar = new AirParted();
        withEar.ear(0, 1);
        Check.due("2: land with an ear", withEar.land(3, 3), AirParted.NOT);
        Check.due("2: W stays", withEar.count(10), 10);
    }

    private static void ground() {
        AirParted x = new AirParted();
        Check.due("3: hill on a lost sheet", x.ground(0, 0), AirParted.NONE);
        x.sheet(0, 3, 6);
        x.sheet(1, 0, 6);
        long[] hills = {0, 99, 100, -1, 1L << 32, 50};
        long[] woods = {0, 9, 10, -1, 256 + 3, 5};
        int[] dueHills = {0, 99, -1, -1, -1, 50};
        int[] dueWoods = {0, 9, -1, -1, 3, 5};
        for (int c = 0; c < 6; c++) {
            x.put(0, 3, c, hills[c]);
            x.put(1, 0, c, woods[c]);
            Check.due("3: hill of " + c, x.ground(c, 0), dueHills[c]);
            Check.due("3: wood of " + c, x.ground(c, 1), dueWoods[c]);
        }
        Check.due("3: hill behind the sheet", x.ground(6, 0), AirParted.NONE);
        Check.due("3: cell -1", x.ground(-1, 0), AirParted.BAD);
        Check.due("3: cell 100", x.ground(100, 0), AirParted.BAD);
        Check.due("3: what 2", x.ground(0, 2), AirParted.BAD);
        Check.due("3: what -1", x.ground(0, -1), AirParted.BAD);
        x.lose(0);
        Check.due("3: hill of a sheet lost again", x.ground(1, 0), AirParted.NONE);
    }

    private static void set() {
        AirParted x = new AirParted();
        int[] first = {5, 20, 10, 100, 100};
        int[] least = {0, 0, 1, 1, 1};
        int[] greatest = {50, 200, 10000, 1000000, 1000000};
        for (int what = 0; what < 5; what++) {
            Check.due("4: below " + what, x.set(what, least[what] - 1), AirParted.BAD);
            Check.due("4: above " + what, x.set(what, greatest[what] + 1), AirParted.BAD);
            Check.due("4: first " + what, x.set(what, least[what]), first[what]);
            Check.due("4: least " + what, x.set(what, greatest[what]), least[what]);
            Check.due("4: greatest " + what, x.set(what, 7), greatest[what]);
        }
        Check.due("4: what 5", x.set(5, 1), AirParted.BAD);
        Check.due("4: what -1", x.set(-1, 1), AirParted.BAD);
    }

    private static void lossOverOpenLand() {
        AirParted x = new AirParted();
        Check.due("5: the same cell", x.loss(55, 0, 55, 20, 1), 1);
        Check.due("5: a neighbour", x.loss(0, 0, 1, 0, 1), 2);
        Check.due("5: slantwise", x.loss(0, 0, 11, 0, 1), 3);
        Check.due("5: across", x.loss(0, 0, 99, 0, 0), 163);
        // Worst: 8 cells between, each of wood 9 (45) and of hill 99 above masts of 0 (1980).
        Check.due("5: across at the worst", x.loss(0, 0, 99, 0, 1), 163 + 8 * (45 + 1980));
    }

    private static void lossOverHills() {
        AirParted x = new AirParted();
        x.land(4, 2);
        x.sheet(0, 2, 8);
        // From (0,0) to (3,1): the cells between are (1, 1/3 and a half: 0) and (2, 2/3 and a half: 1).
        x.put(0, 2, 1, 10);
        x.put(0, 2, 6, 50);
        Check.due("5: the way of a line", x.loss(0, 0, 7, 0, 0), 11 + 20 * 10 + 20 * 50);
        Check.due("5: the same way back", x.loss(7, 0, 0, 0, 0), 11 + 20 * 10 + 20 * 50);
        // Sight from 1 to 3: 1 2/3 at the first, 2 1/3 at the second; 8 1/3 and 47 2/3 above, cut to 8 and 47.
        Check.due("5: the amount above is cut", x.loss(0, 1, 7, 3, 0), 11 + 20 * 8 + 20 * 47);
        Check.due("5: cut alike the way back", x.loss(7, 3, 0, 1, 0), 11 + 20 * 8 + 20 * 47);
        // The hill of an end lifts the sight: from 20 to 0 it is 13 1/3 and 6 2/3.
        x.put(0, 2, 0, 20);
        Check.due("5: below the sight costs nothing", x.loss(0, 0, 7, 0, 0), 11 + 20 * 43);
        x.set(1, 1);
        Check.due("5: HILLS as told", x.loss(0, 0, 7, 0, 0), 11 + 43);
        x.put(0, 2, 7, 100);
        Check.due("5: an unknown end is 0 at the worst too", x.loss(0, 0, 7, 0, 1), 11 + 43 + 2 * 45);
        // Half a cell goes up: from (0,0) to (2,1), between is (1, 1), of hill 7, not (1, 0), of hill 10.
        x.put(0, 2, 0, 0);
        x.put(0, 2, 5, 7);
        x.put(0, 2, 6, 0);
        Check.due("5: a half goes up, seen from below", x.loss(6, 0, 0, 0, 0), 6 + 7);
        Check.due("5: a half goes up, seen from above", x.loss(0, 0, 6, 0, 0), 6 + 7);
    }

    private static void lossOverWoods() {
        AirParted x = new AirParted();
        x.land(4, 1);
        x.sheet(1, 1, 2);
        x.put(1, 1, 0, 9);
        x.put(1, 1, 1, 4);
        Check.due("5: woods between alone", x.loss(0, 0, 3, 0, 0), 10 + 20);
        x.sheet(0, 1, 4);
        Check.due("5: an unknown wood is 9 at the worst", x.loss(0, 0, 3, 0, 1), 10 + 20 + 45);
        x.set(0, 50);
        Check.due("5: WOODS as told", x.loss(3, 0, 0, 0, 1), 10 + 200 + 450);
    }

    private static void lossWrong() {
        AirParted x = new AirParted();
        int[][] bad = {{-1, 0, 0, 0, 0}, {100, 0, 0, 0, 0}, {0, -1, 0, 0, 0}, {0, 21, 0, 0, 0}, {0, 0, -1, 0, 0}, {0, 0, 100, 0, 0},
            {0, 0, 0, -1, 0}, {0, 0, 0, 21, 0}, {0, 0, 0, 0, -1}, {0, 0, 0, 0, 2}};
        for (int[] b : bad) {
            Check.due("5: wrong loss", x.loss(b[0], b[1], b[2], b[3], b[4]), AirParted.BAD);
        }
    }

    private static void pass() {
        AirParted x = new AirParted();
        Check.due("6: pass(1)", x.pass(1), 1);
        Check.due("6: pass(1000)", x.pass(1000), 1001);
        Check.due("6: pass(0)", x.pass(0), AirParted.BAD);
        Check.due("6: pass(1001)", x.pass(1001), AirParted.BAD);
        Check.due("6: pass(-1)", x.pass(-1), AirParted.BAD);
        Check.due("6: the tick", x.count(8), 1001);
    }
}
