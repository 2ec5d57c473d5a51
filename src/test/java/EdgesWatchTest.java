/** Part 8 of the terms and promises 37 to 42, edge by edge: boxes, logs, cells that agree, cheats. */
public final class EdgesWatchTest {
    private static final int NONE = AirParted.NONE, BAD = AirParted.BAD, NOT = AirParted.NOT, FULL = AirParted.FULL;

    public static void main(String[] args) {
        boxIsBounded();
        eightBoxesAreAll();
        logIsBounded();
        logTellsWhatItWas();
        logsAreTornAtFirst();
        hearIsBounded();
        hearOfNoBoxes();
        hearOfAllBoxes();
        hearInMood0();
        hearWhereItStands();
        hearTheMost();
        cellsIsBounded();
        cellIsBounded();
        allAgreeWithoutLogs();
        tornOnesDoNotCount();
        agreesFromBelowAndAbove();
        agreesWithSlack0();
        agreesWithSlack100();
        agreesOfGreatNumbers();
        agreesByEveryBox();
        agreesOverTheLand();
        cellsAreTheLandsOwn();
        cellByNumbers();
        cheatsIsBounded();
        cheatsNot();
        cheatsWithinFar();
        cheatsByBothWays();
        cheatsOverTheWholeLand();
        cheatsByItsStrength();
        cheatsWhereItStands();
        Check.end();
    }

    /** A land of one cell with one BOX that GOT so much. */
    private static AirParted single(int got) {
        AirParted x = new AirParted();
        x.land(1, 1);
        x.box(0);
        x.log(0, got);
        return x;
    }

    // ---- promise 37

    private static void boxIsBounded() {
        Refusal.bounds("37: cell", States::some, (x, v) -> x.box(v), 0, States.CELLS - 1);
        Refusal.bounds("37: cell of a new object", States::fresh, (x, v) -> x.box(v), 0, 99);
    }

    private static void eightBoxesAreAll() {
        AirParted x = new AirParted();
        Check.due("37: a refused one", x.box(100), BAD);
        for (int b = 0; b < 8; b++) {
            Check.due("37: BOX " + b + ", all on one cell", x.box(99), b);
        }
        Check.due("37: a ninth", x.box(99), FULL);
        Check.due("53: eight", x.count(4), 8);
        Refusal.due("37: FULL", States::full, y -> y.box(0), FULL);
        Refusal.bad("37: BAD ahead of FULL, above", States::full, y -> y.box(States.CELLS));
        Refusal.bad("37: BAD ahead of FULL, below", States::full, y -> y.box(-1));
    }

    // ---- promise 38

    private static void logIsBounded() {
        Refusal.bounds("38: BOX", States::some, (x, v) -> x.log(v, 5), 0, States.BOXES - 1, -3);
        Refusal.bounds("38: BOX of eight", States::full, (x, v) -> x.log(v, 5), 0, 7, -3);
        Refusal.bounds("38: what it GOT", States::some, (x, v) -> x.log(0, v), NONE, 100000000, -3);
        Refusal.bounds("38: what a TORN one GOT", States::some, (x, v) -> x.log(1, v), NONE, 100000000, -3);
        Refusal.due("38: no BOXES", States::fresh, x -> x.log(0, 5), -3);
        Refusal.due("38: no BOXES, TORN", States::fresh, x -> x.log(0, NONE), -3);
        Refusal.due("38: no such BOX, TORN", States::some, x -> x.log(3, NONE), -3);
        Refusal.due("38: NONE is -1, not -2", States::some, x -> x.log(0, -2), -3);
    }

    private static void logTellsWhatItWas() {
        AirParted x = new AirParted();
        x.box(0);
        x.box(1);
        Check.due("38: TORN at first", x.log(0, 0), NONE);
        Check.due("38: was 0", x.log(0, 100000000), 0);
        Check.due("38: was the most", x.log(0, 7), 100000000);
        Check.due("38: was 7", x.log(0, NONE), 7);
        Check.due("38: was TORN", x.log(0, NONE), NONE);
        Check.due("38: was TORN still", x.log(0, 1), NONE);
        Check.due("38: the other is TORN still", x.log(1, 1), NONE);
    }

    private static void logsAreTornAtFirst() {
        AirParted x = new AirParted();
        for (int b = 0; b < 8; b++) {
            x.box(b);
            Check.due("38: BOX " + b + " has no LOG at first", x.count(5), b);
            Check.due("38: BOX " + b + " is TORN at first", x.log(b, 0), NONE);
            Check.due("38: 0 is a LOG", x.count(5), b + 1);
        }
        x.log(3, NONE);
        Check.due("38: one is TORN again", x.count(5), 7);
    }

    // ---- promise 39

    private static void hearIsBounded() {
        Refusal.bounds("39: SENDER", States::some, (x, v) -> x.hear(v), 0, States.SENDERS - 1);
        Refusal.bounds("39: SENDER of twenty", States::full, (x, v) -> x.hear(v), 0, 19);
        Refusal.bad("39: no SENDERS", States::fresh, x -> x.hear(0));
    }

    private static void hearOfNoBoxes() {
        AirParted x = new AirParted();
        x.sender(0, 0, 1, 0, 1, 0);
        Check.due("39: no BOXES", x.hear(0), 0);
        x.box(0);
        Check.due("39: a BOX made later is TORN", x.count(5), 0);
        Check.due("39: one BOX", x.hear(0), 1);
    }

    private static void hearOfAllBoxes() {
        AirParted x = new AirParted();
        x.land(20, 1);
        x.sender(0, 0, 1, 0, 1, 0);
        int[] due = {100, 50, 20, 10, 5, 3, 2, 2};
        for (int b = 0; b < 8; b++) {
            x.box(b);
        }
        x.log(0, 12345);
        x.on(0, false);
        Check.due("39: eight BOXES, of an OFF one", x.hear(0), 8);
        for (int b = 0; b < 8; b++) {
            Check.due("39: BOX " + b + ", TORN or not before", x.log(b, NONE), due[b]);
        }
        AirParted far = new AirParted();
        far.land(20, 1);
        far.sender(0, 0, 1, 0, 1, 0);
        far.box(19);
        far.hear(0);
        Check.due("39: a LOG of nothing is not TORN", far.count(5), 1);
        Check.due("39: it is 0", far.log(0, NONE), 0);
    }

    private static void hearInMood0() {
        for (int kind = 0; kind < 6; kind++) {
            AirParted x = new AirParted();
            x.sender(kind, 0, 10000, 0, 1, 0);
            x.box(2);
            x.hear(0);
            Check.due("39: MOOD 0 of KIND " + kind, x.log(0, NONE), 200000);
        }
    }

    private static void hearWhereItStands() {
        AirParted x = new AirParted();
        x.sender(1, 0, 1, 0, 1, 0);
        x.change(0, 4, 4);
        x.sheet(4, 1, 1);
        x.put(4, 1, 0, 99);
        x.box(99);
        x.hear(0);
        Check.due("39: of a MOVER where it stands at TICK", x.log(0, NONE), 100);
        x.pass(1);
        x.hear(0);
        Check.due("39: of a MOVER at home", x.log(0, NONE), 0);
        AirParted y = new AirParted();
        y.land(3, 1);
        y.sheet(0, 0, 3);
        y.put(0, 0, 1, 20);
        y.sender(0, 0, 1000, 20, 1, 0);
        y.box(2);
        y.hear(0);
        Check.due("39: by its MAST, to MAST 0", y.log(0, NONE), 100000 / 205);
    }

    private static void hearTheMost() {
        AirParted x = new AirParted();
        x.sender(0, 0, 1000000, 0, 1, 0);
        x.box(0);
        x.hear(0);
        Check.due("39: the most that a BOX can have GOT", x.log(0, NONE), 100000000);
    }

    // ---- promises 40 and 41

    private static void cellsIsBounded() {
        Refusal.bounds("40: STRENGTH", States::some, (x, v) -> x.cells(v, 50), 1, 1000000);
        Refusal.bounds("40: slack", States::some, (x, v) -> x.cells(100, v), 0, 100);
        Refusal.bounds("40: STRENGTH, no BOXES", States::fresh, (x, v) -> x.cells(v, 0), 1, 1000000);
        Refusal.bounds("40: slack, no BOXES", States::fresh, (x, v) -> x.cells(1, v), 0, 100);
    }

    private static void cellIsBounded() {
        Refusal.bounds("41: STRENGTH", States::some, (x, v) -> x.cell(v, 50, 0), 1, 1000000);
        Refusal.bounds("41: slack", States::some, (x, v) -> x.cell(100, v, 0), 0, 100);
        for (int i : new int[] {-1, Integer.MIN_VALUE}) {
            Refusal.bad("41: i " + i, States::some, x -> x.cell(100, 50, i));
            Refusal.bad("41: i " + i + ", no BOXES", States::fresh, x -> x.cell(1, 0, i));
        }
        Refusal.due("41: i far above", States::some, x -> x.cell(100, 50, Integer.MAX_VALUE), NONE);
        Refusal.bad("41: STRENGTH 0, i far above", States::some, x -> x.cell(0, 50, Integer.MAX_VALUE));
    }

    private static void allAgreeWithoutLogs() {
        AirParted x = new AirParted();
        Check.due("40: no BOXES", x.cells(1, 0), 100);
        Check.due("41: no BOXES, the first", x.cell(1, 0, 0), 0);
        Check.due("41: no BOXES, the last", x.cell(1, 0, 99), 99);
        Check.due("41: no BOXES, behind the last", x.cell(1, 0, 100), NONE);
        x.box(0);
        x.box(50);
        Check.due("40: all LOGS are TORN", x.cells(1000000, 0), 100);
        AirParted y = new AirParted();
        y.land(20, 20);
        Check.due("40: of the greatest LAND", y.cells(1, 0), 400);
        Check.due("41: of the greatest LAND, the last", y.cell(1, 0, 399), 399);
        Check.due("41: of the greatest LAND, behind it", y.cell(1, 0, 400), NONE);
        AirParted z = new AirParted();
        z.land(1, 1);
        Check.due("40: of the least LAND", z.cells(1, 0), 1);
    }

    private static void tornOnesDoNotCount() {
        AirParted x = new AirParted();
        x.land(5, 1);
        x.box(0);
        x.box(4);
        x.log(0, 100);
        x.log(1, 100);
        Check.due("40: both LOGS count", x.cells(1, 0), 0);
        x.log(1, NONE);
        Check.due("40: a TORN one does not", x.cells(1, 0), 1);
        Check.due("41: the cell of the one", x.cell(1, 0, 0), 0);
        x.log(1, 5);
        Check.due("40: with what it would have GOT", x.cells(1, 0), 1);
        x.log(1, 0);
        Check.due("40: a LOG of 0 does count", x.cells(1, 0), 0);
    }

    private static void agreesFromBelowAndAbove() {
        // It would have GOT 900: 100 times the amount is at most slack times 1000.
        int[][] rows = {{889, 10, 0}, {799, 10, 0}, {800, 10, 1}, {1000, 10, 1}, {1001, 10, 0}, {890, 1, 1}, {889, 1, 0}, {910, 1, 1}, {911, 1, 0}};
        for (int[] row : rows) {
            boolean within = 100 * Math.abs(row[0] - 900) <= row[1] * 1000;
            Check.due("40: GOT " + row[0] + ", slack " + row[1], single(row[0]).cells(9, row[1]), within ? 1 : 0);
        }
        Check.due("40: 100 below, slack 10", single(800).cells(9, 10), 1);
        Check.due("40: 101 below, slack 10", single(799).cells(9, 10), 0);
        Check.due("40: 100 above, slack 10", single(1000).cells(9, 10), 1);
        Check.due("40: 101 above, slack 10", single(1001).cells(9, 10), 0);
    }

    private static void agreesWithSlack0() {
        Check.due("40: slack 0, just that", single(900).cells(9, 0), 1);
        Check.due("40: slack 0, one below", single(899).cells(9, 0), 0);
        Check.due("40: slack 0, one above", single(901).cells(9, 0), 0);
    }

    private static void agreesWithSlack100() {
        Check.due("40: slack 100, nothing GOT", single(0).cells(9, 100), 1);
        Check.due("40: slack 100, 1000 above", single(1900).cells(9, 100), 1);
        Check.due("40: slack 100, 1001 above", single(1901).cells(9, 100), 0);
        AirParted x = new AirParted();
        x.land(20, 1);
        x.box(0);
        x.log(0, 0);
        // From cell 10 on 100 by 101 and more is 0.
        Check.due("40: nothing GOT, slack 0: nine far ones and that on 10", x.cells(1, 0), 10);
        Check.due("41: the first of them", x.cell(1, 0, 0), 10);
        x.log(0, 1);
        Check.due("40: 1 GOT, slack 0: cells 8 and 9", x.cells(1, 0), 2);
        // 2 on cells 6 and 7, 1 on 8 and 9, 0 on the ten behind: 100 times 1 is at most 1 times (2 and 100), (0 and 100).
        Check.due("40: 1 GOT, slack 1", x.cells(1, 1), 14);
    }

    private static void agreesOfGreatNumbers() {
        Check.due("40: the most of the most", single(100000000).cells(1000000, 0), 1);
        Check.due("40: nothing of the most, slack 99", single(0).cells(1000000, 99), 0);
        Check.due("40: nothing of the most, slack 100", single(0).cells(1000000, 100), 1);
        Check.due("40: the most of the least, slack 100", single(100000000).cells(1, 100), 0);
        // 100 times 50000100 is beyond ints: at most 100 times (49999900 and 100) is 50000000 times 100.
        Check.due("40: just within, beyond ints", single(99999900).cells(499999, 100), 1);
        Check.due("40: just beyond, beyond ints", single(99999901).cells(499999, 100), 0);
    }

    private static void agreesByEveryBox() {
        AirParted x = new AirParted();
        x.land(20, 1);
        for (int b = 0; b < 8; b++) {
            x.box(b);
        }
        x.sender(0, 3, 100, 0, 1, 0);
        x.hear(0);
        Check.due("40: by eight BOXES", x.cells(100, 0), 1);
        Check.due("41: by eight BOXES", x.cell(100, 0, 0), 3);
        int was = x.log(7, 0);
        Check.due("40: the last of them does not agree", x.cells(100, 0), 0);
        x.log(7, was);
        x.log(0, 0);
        Check.due("40: the first of them does not agree", x.cells(100, 0), 0);
    }

    private static void agreesOverTheLand() {
        AirParted x = new AirParted();
        x.land(3, 1);
        x.sheet(0, 0, 3);
        x.put(0, 0, 1, 20);
        x.box(2);
        x.log(0, 100000 / 405);
        Check.due("40: over a HILL, with MAST 0", x.cell(1000, 0, 0), 0);
        x.lose(0);
        Check.due("40: over what is UNKNOWN, MOOD 0", x.cells(1000, 0), 0);
        x.log(0, 20000);
        Check.due("40: 100000 by 5", x.cell(1000, 0, 0), 0);
        AirParted slope = new AirParted();
        slope.land(3, 1);
        slope.sheet(0, 0, 3);
        slope.put(0, 0, 0, 1);
        slope.put(0, 0, 1, 20);
        slope.box(2);
        // The line of sight from 1 to 0 is at a half: 19 and a half above, cut.
        slope.log(0, 100000 / 385);
        Check.due("40: from a HILL of 1, with MAST 0", slope.cell(1000, 0, 0), 0);
        x.sheet(1, 0, 3);
        x.put(1, 0, 1, 9);
        x.log(0, 2000);
        Check.due("40: through a WOOD, by 50", x.cell(1000, 0, 0), 0);
    }

    private static void cellsAreTheLandsOwn() {
        AirParted x = new AirParted();
        x.land(2, 2);
        x.box(0);
        // A cell two to the right or two down would have 20.
        x.log(0, 20);
        Check.due("40: only cells of the LAND", x.cells(1, 0), 0);
        Check.due("41: only cells of the LAND", x.cell(1, 0, 0), NONE);
        x.log(0, 33);
        Check.due("41: the last cell of the LAND", x.cell(1, 0, 0), 3);
        AirParted y = single(50);
        y.sender(5, 0, 1, 0, 1, 0);
        // One to the left, to the right, up or down would have 50.
        Check.due("40: none beside the only cell", y.cells(1, 0), 0);
        Check.due("41: none beside the only cell", y.cell(1, 0, 0), NONE);
        Check.due("42: none beside the only cell", y.cheats(0, 30, 0), 1);
    }

    private static void cellByNumbers() {
        AirParted x = new AirParted();
        x.land(3, 3);
        x.box(4);
        x.log(0, 50);
        int[] due = {1, 3, 5, 7, NONE, NONE};
        Check.due("40: four neighbours", x.cells(1, 0), 4);
        for (int i = 0; i < due.length; i++) {
            Check.due("41: neighbour " + i, x.cell(1, 0, i), due[i]);
        }
        x.log(0, 33);
        int[] corners = {0, 2, 6, 8, NONE};
        for (int i = 0; i < corners.length; i++) {
            Check.due("41: corner " + i, x.cell(1, 0, i), corners[i]);
        }
    }

    // ---- promise 42

    private static void cheatsIsBounded() {
        Refusal.bounds("42: SENDER", States::some, (x, v) -> x.cheats(v, 5, 5), 0, States.SENDERS - 1);
        Refusal.bounds("42: far", States::some, (x, v) -> x.cheats(1, v, 5), 0, 30);
        Refusal.bounds("42: slack", States::some, (x, v) -> x.cheats(1, 5, v), 0, 100);
        Refusal.bad("42: no SENDERS", States::fresh, x -> x.cheats(0, 0, 0));
    }

    private static AirParted withTorn(int boxes) {
        AirParted x = new AirParted();
        x.sender(5, 44, 6, 0, 1, 0);
        for (int b = 0; b < boxes; b++) {
            x.box(b);
        }
        return x;
    }

    private static void cheatsNot() {
        Refusal.due("42: NOT, no BOXES", () -> withTorn(0), x -> x.cheats(0, 0, 0), NOT);
        Refusal.due("42: NOT, one TORN", () -> withTorn(1), x -> x.cheats(0, 30, 100), NOT);
        Refusal.due("42: NOT, eight TORN", () -> withTorn(8), x -> x.cheats(0, 30, 100), NOT);
        Refusal.bad("42: BAD ahead of NOT, SENDER", () -> withTorn(1), x -> x.cheats(1, 0, 0));
        Refusal.bad("42: BAD ahead of NOT, far", () -> withTorn(1), x -> x.cheats(0, 31, 0));
        Refusal.bad("42: BAD ahead of NOT, slack", () -> withTorn(0), x -> x.cheats(0, 0, 101));
        AirParted x = withTorn(8);
        x.log(7, 0);
        Check.due("42: one of eight that is not TORN", x.cheats(0, 0, 0), 1);
        x.log(7, NONE);
        Check.due("42: TORN again", x.cheats(0, 0, 0), NOT);
    }

    private static void cheatsWithinFar() {
        AirParted x = new AirParted();
        x.sender(5, 44, 60, 0, 1, 0);
        x.box(44);
        x.hear(0);
        Check.due("42: where it stands", x.cheats(0, 0, 0), 0);
        // 6000 by 2: one off, by 5: two off, by 6: (1, 2) off, by 3: (1, 1) off, by 26: 5 or (3, 4) off.
        int[][] rows = {{3000, 0, 1}, {3000, 1, 0}, {2000, 1, 1}, {2000, 2, 0}, {1200, 1, 1}, {1200, 2, 0}, {1000, 2, 1}, {1000, 3, 0}, {230, 4, 1}, {230, 5, 0}};
        for (int[] row : rows) {
            x.log(0, row[0]);
            Check.due("42: GOT " + row[0] + ", within " + row[1], x.cheats(0, row[1], 0), row[2]);
        }
    }

    private static void cheatsByBothWays() {
        // The only cell that agrees is that of the BOX: 5 to the right of the SENDER, then 5 below it, then (3, 4) off.
        int[] boxes = {5, 50, 43};
        for (int b : boxes) {
            AirParted x = new AirParted();
            x.sender(5, 0, 60, 0, 1, 0);
            x.box(b);
            x.log(0, 6000);
            Check.due("42: cell " + b + " is not within 4", x.cheats(0, 4, 0), 1);
            Check.due("42: cell " + b + " is within 5", x.cheats(0, 5, 0), 0);
            AirParted y = new AirParted();
            y.sender(5, b, 60, 0, 1, 0);
            y.box(0);
            y.log(0, 6000);
            Check.due("42: from " + b + " cell 0 is not within 4", y.cheats(0, 4, 0), 1);
            Check.due("42: from " + b + " cell 0 is within 5", y.cheats(0, 5, 0), 0);
        }
    }

    private static void cheatsOverTheWholeLand() {
        AirParted x = new AirParted();
        x.land(20, 20);
        x.sender(5, 0, 1000000, 0, 1, 0);
        x.box(399);
        x.log(0, 100000000);
        Check.due("42: from corner to corner, 722 is above 26 times 26", x.cheats(0, 26, 0), 1);
        Check.due("42: and not above 27 times 27", x.cheats(0, 27, 0), 0);
        Check.due("42: the greatest far", x.cheats(0, 30, 0), 0);
        x.log(0, 99999999);
        Check.due("42: no cell agrees at all", x.cheats(0, 30, 0), 1);
    }

    private static void cheatsByItsStrength() {
        AirParted x = new AirParted();
        x.sender(0, 44, 6, 0, 1, 0);
        x.box(44);
        x.log(0, 600);
        Check.due("42: with its STRENGTH", x.cheats(0, 0, 0), 0);
        x.change(0, 0, 7);
        Check.due("42: with another", x.cheats(0, 0, 0), 1);
        // 100 times 100 is at most 13 times 800, not 12 times 800.
        Check.due("42: with slack 12", x.cheats(0, 0, 12), 1);
        Check.due("42: with slack 13", x.cheats(0, 0, 13), 0);
        x.on(0, false);
        Check.due("42: an OFF one too", x.cheats(0, 0, 13), 0);
    }

    private static void cheatsWhereItStands() {
        AirParted x = new AirParted();
        x.sender(1, 0, 6, 0, 1, 0);
        x.change(0, 4, 2);
        x.box(99);
        x.log(0, 600);
        Check.due("42: a MOVER at home", x.cheats(0, 0, 0), 1);
        x.sheet(2, 2, 2);
        x.put(2, 2, 1, 99);
        x.pass(1);
        Check.due("42: a MOVER where it stands at TICK", x.cheats(0, 0, 0), 0);
        x.pass(1);
        Check.due("42: a MOVER at home again", x.cheats(0, 0, 0), 1);
        AirParted y = new AirParted();
        // A GUARDED one, two off, over UNKNOWN ground: MOOD 0 and MAST 0 all the same.
        y.sender(4, 0, 10000, 20, 1, 0);
        y.box(2);
        y.log(0, 200000);
        Check.due("42: a GUARDED one in MOOD 0", y.cheats(0, 0, 0), 0);
    }
}
