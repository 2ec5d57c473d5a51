import java.util.Random;

/** Part 1 of the terms and promises 1 to 6, edge by edge: a land, hills and woods, losses, what is told, ticks. */
public final class EdgesLandTest {
    private static final int NONE = AirParted.NONE, BAD = AirParted.BAD, NOT = AirParted.NOT;

    public static void main(String[] args) {
        atFirstThereIsNothing();
        atFirstAllSheetsAreLost();
        atFirstTenByTen();
        aLandOfOneCell();
        aLandOfFourHundred();
        cellsAreCountedByRows();
        landIsBounded();
        landIsNotChangedUnderThings();
        landIsChangedUnderAllElse();
        groundIsBounded();
        hillsAreKnownFrom0To99();
        woodsAreKnownFrom0To9();
        groundThatIsNotThere();
        groundIsOfItsOwnSheet();
        groundOfEachForm();
        toldAtFirst();
        setIsBounded();
        lossIsBounded();
        nothingIsBetween();
        oneIsBetween();
        endsAreNotBetween();
        kindAndWorst();
        unknownEndsAreZero();
        aboveTheLineOfSight();
        sightIsFromMastsAndHills();
        howMuchAboveIsCut();
        halfACellGoesUp();
        stepsBelowZeroGoDown();
        theGreatestLoss();
        nothingToldCostsNothing();
        theSameBothWays();
        passIsBounded();
        ticksAddUp();
        Check.end();
    }

    // ---- promise 1

    private static void atFirstThereIsNothing() {
        AirParted x = new AirParted();
        for (int what = 0; what <= 9; what++) {
            Check.due("1: count(" + what + ") at first", x.count(what), 0);
        }
        Check.due("1: no SENDERS", x.about(0, 0), Integer.MIN_VALUE);
        Check.due("1: no SENDERS are heard", x.heard(0), BAD);
        Check.due("1: no BIDS", x.pays(0), BAD);
        Check.due("1: no BOXES", x.log(0, 0), -3);
        Check.due("1: no SITES", x.serves(1), BAD);
        Check.due("1: none WON", x.won(), 0);
        Check.due("1: THE TEXTS are empty", x.wipe(), 0);
    }

    private static void atFirstAllSheetsAreLost() {
        for (int s = 0; s < 6; s++) {
            AirParted x = new AirParted();
            Check.due("1: get of SHEET " + s + " at first", x.get(s, 0, 0), Long.MIN_VALUE);
            Check.due("1: SHEET " + s + " is LOST at first", x.count(9), 1);
            Check.due("1: lose(" + s + ") at first", x.lose(s), -11);
        }
    }

    // ---- promise 2

    private static void atFirstTenByTen() {
        AirParted x = new AirParted();
        Check.due("2: W is 10 at first", x.count(10), 10);
        Check.due("2: H is 10 at first", x.count(11), 10);
        Check.due("2: cell 99 is the last at first", x.ground(99, 0), NONE);
        Check.due("2: cell 100 is not there at first", x.ground(100, 0), BAD);
        Check.due("2: cell 10 is below cell 0 at first", x.loss(0, 0, 10, 0, 0), 2);
    }

    private static void aLandOfOneCell() {
        AirParted x = new AirParted();
        Check.due("2: land(1, 1)", x.land(1, 1), 1);
        Check.due("2: its W", x.count(10), 1);
        Check.due("2: its H", x.count(11), 1);
        Check.due("2: its cell", x.ground(0, 0), NONE);
        Check.due("2: no second cell", x.ground(1, 0), BAD);
        Check.due("5: LOSS on its cell", x.loss(0, 20, 0, 0, 1), 1);
    }

    private static void aLandOfFourHundred() {
        AirParted x = new AirParted();
        Check.due("2: land(20, 20)", x.land(20, 20), 1);
        Check.due("2: its W", x.count(10), 20);
        Check.due("2: its H", x.count(11), 20);
        Check.due("2: its last cell", x.ground(399, 1), NONE);
        Check.due("2: none behind it", x.ground(400, 1), BAD);
        x.sheet(0, 0, 400);
        x.put(0, 0, 399, 42);
        Check.due("3: HILL of its last cell", x.ground(399, 0), 42);
        AirParted row = new AirParted();
        Check.due("2: land(20, 1)", row.land(20, 1), 1);
        Check.due("5: along it", row.loss(0, 0, 19, 0, 0), 1 + 361);
        Check.due("2: none below it", row.ground(20, 0), BAD);
        AirParted column = new AirParted();
        Check.due("2: land(1, 20)", column.land(1, 20), 1);
        Check.due("5: down it", column.loss(0, 0, 19, 0, 0), 1 + 361);
        Check.due("2: none beside it", column.ground(20, 0), BAD);
    }

    private static void cellsAreCountedByRows() {
        AirParted x = new AirParted();
        x.land(4, 2);
        Check.due("2: of 4 by 2, cell 3 is (3, 0), cell 4 is (0, 1)", x.loss(3, 0, 4, 0, 0), 1 + 9 + 1);
        Check.due("2: of 4 by 2, cell 0 is (0, 0), cell 7 is (3, 1)", x.loss(0, 0, 7, 0, 0), 1 + 9 + 1);
        AirParted y = new AirParted();
        y.land(2, 4);
        Check.due("2: of 2 by 4, cell 3 is (1, 1), cell 4 is (0, 2)", y.loss(3, 0, 4, 0, 0), 1 + 1 + 1);
        Check.due("2: of 2 by 4, cell 0 is (0, 0), cell 7 is (1, 3)", y.loss(0, 0, 7, 0, 0), 1 + 1 + 9);
    }

    private static void landIsBounded() {
        Refusal.bounds("2: W", States::bare, (x, v) -> x.land(v, 7), 1, 20);
        Refusal.bounds("2: H", States::bare, (x, v) -> x.land(7, v), 1, 20);
        Refusal.bounds("2: W of a new object", States::fresh, (x, v) -> x.land(v, 1), 1, 20);
        Refusal.bounds("2: H of a new object", States::fresh, (x, v) -> x.land(20, v), 1, 20);
    }

    private static void landIsNotChangedUnderThings() {
        Refusal.due("2: NOT under all of them", States::some, x -> x.land(6, 5), NOT);
        Refusal.due("2: NOT where all is full", States::full, x -> x.land(1, 1), NOT);
        Refusal.bad("2: BAD ahead of NOT, W", States::some, x -> x.land(0, 5));
        Refusal.bad("2: BAD ahead of NOT, H", States::some, x -> x.land(5, 21));
        Refusal.due("2: NOT under one SENDER", () -> withOne(0), x -> x.land(3, 3), NOT);
        Refusal.due("2: NOT under one SENDER that is OFF", () -> withOne(1), x -> x.land(3, 3), NOT);
        Refusal.due("2: NOT under one BOX", () -> withOne(2), x -> x.land(3, 3), NOT);
        Refusal.due("2: NOT under one SITE", () -> withOne(3), x -> x.land(3, 3), NOT);
        Refusal.due("2: NOT under one EAR", () -> withOne(4), x -> x.land(3, 3), NOT);
        Refusal.bad("2: BAD ahead of NOT under one EAR", () -> withOne(4), x -> x.land(21, 3));
    }

    private static AirParted withOne(int which) {
        AirParted x = new AirParted();
        if (which <= 1) {
            x.sender(0, 0, 1, 0, 1, 0);
            x.on(0, which == 0);
        } else if (which == 2) {
            x.box(0);
        } else if (which == 3) {
            x.site(0, 0, 1, 2, 1, 1);
        } else {
            x.ear(0, 1);
        }
        return x;
    }

    private static void landIsChangedUnderAllElse() {
        AirParted x = States.bare();
        long hill = x.get(0, 0, 1);
        Check.due("2: SHEETS, texts, what is told and TICKS do not hinder", x.land(3, 4), 1);
        Check.due("2: W then", x.count(10), 3);
        Check.due("2: H then", x.count(11), 4);
        Check.due("2: SHEETS stay", x.get(0, 0, 1), hill);
        Check.due("2: the TICK stays", x.count(8), 2);
        Check.due("2: texts stay", x.count(3), 17);
        Check.due("2: what is told stays", x.set(0, 5), 4);
        Check.due("2: again", x.land(20, 20), 1);
        Check.due("2: and smaller again", x.land(1, 1), 1);
        Check.due("2: the same once more", x.land(1, 1), 1);
    }

    // ---- promise 3

    private static void groundIsBounded() {
        Refusal.bounds("3: cell", States::some, (x, v) -> x.ground(v, 0), 0, States.CELLS - 1);
        Refusal.bounds("3: cell, for WOOD", States::some, (x, v) -> x.ground(v, 1), 0, States.CELLS - 1);
        Refusal.bounds("3: what", States::some, (x, v) -> x.ground(0, v), 0, 1);
        Refusal.bounds("3: cell of a new object", States::fresh, (x, v) -> x.ground(v, 0), 0, 99);
    }

    private static int groundOf(int s, int form, long v) {
        AirParted x = new AirParted();
        x.sheet(s, form, 1);
        x.put(s, form, 0, v);
        return x.ground(0, s);
    }

    private static void hillsAreKnownFrom0To99() {
        Check.due("3: HILL -1 is UNKNOWN", groundOf(0, 2, -1), NONE);
        Check.due("3: HILL 0 is known", groundOf(0, 2, 0), 0);
        Check.due("3: HILL 1 is known", groundOf(0, 2, 1), 1);
        Check.due("3: HILL 99 is known", groundOf(0, 2, 99), 99);
        Check.due("3: HILL 100 is UNKNOWN", groundOf(0, 2, 100), NONE);
        Check.due("3: HILL of the least long is UNKNOWN", groundOf(0, 3, Long.MIN_VALUE), NONE);
        Check.due("3: HILL of the greatest long is UNKNOWN", groundOf(0, 3, Long.MAX_VALUE), NONE);
        Check.due("3: HILL of a long with low bits of 5 is UNKNOWN", groundOf(0, 3, (1L << 32) + 5), NONE);
    }

    private static void woodsAreKnownFrom0To9() {
        Check.due("3: WOOD -1 is UNKNOWN", groundOf(1, 2, -1), NONE);
        Check.due("3: WOOD 0 is known", groundOf(1, 2, 0), 0);
        Check.due("3: WOOD 9 is known", groundOf(1, 2, 9), 9);
        Check.due("3: WOOD 10 is UNKNOWN", groundOf(1, 2, 10), NONE);
        Check.due("3: WOOD 99 is UNKNOWN", groundOf(1, 2, 99), NONE);
        Check.due("3: WOOD of a long with low bits of 5 is UNKNOWN", groundOf(1, 3, (1L << 32) + 5), NONE);
    }

    private static void groundThatIsNotThere() {
        for (int what = 0; what < 2; what++) {
            AirParted x = new AirParted();
            Check.due("3: of a LOST SHEET it is UNKNOWN", x.ground(0, what), NONE);
            x.sheet(what, 1, 0);
            Check.due("3: of a SHEET without items it is UNKNOWN", x.ground(0, what), NONE);
            x.sheet(what, 1, 5);
            Check.due("3: items are 0 at first, so it is known", x.ground(4, what), 0);
            Check.due("3: behind the last item it is UNKNOWN", x.ground(5, what), NONE);
            x.put(what, 1, 4, 3);
            Check.due("3: of the last item it is known", x.ground(4, what), 3);
            x.lose(what);
            Check.due("3: of a SHEET LOST again it is UNKNOWN", x.ground(4, what), NONE);
            x.sheet(what, 1, 5);
            Check.due("3: of a new row it is 0", x.ground(4, what), 0);
            x.sheet(what, 1, 400);
            Check.due("3: a row longer than the LAND makes no cells", x.ground(100, what), BAD);
            Check.due("3: nor a FINDING", x.count(9), 0);
        }
    }

    private static void groundIsOfItsOwnSheet() {
        AirParted x = new AirParted();
        for (int s = 0; s < 6; s++) {
            x.sheet(s, 2, 3);
            x.put(s, 2, 2, 1 + s);
        }
        Check.due("3: HILL is of SHEET 0", x.ground(2, 0), 1);
        Check.due("3: WOOD is of SHEET 1", x.ground(2, 1), 2);
        x.lose(0);
        Check.due("3: HILL without SHEET 0", x.ground(2, 0), NONE);
        Check.due("3: WOOD without SHEET 0", x.ground(2, 1), 2);
    }

    private static void groundOfEachForm() {
        for (int form = 0; form < 4; form++) {
            Check.due("3: HILL 99 of FORM " + form, groundOf(0, form, 99), 99);
            Check.due("3: WOOD 9 of FORM " + form, groundOf(1, form, 9), 9);
        }
        Check.due("3: a byte of 256 and 7 is 7", groundOf(0, 0, 263), 7);
        Check.due("3: a byte of 200 is below 0, UNKNOWN", groundOf(0, 0, 200), NONE);
        Check.due("3: a short of 65536 and 8 is 8", groundOf(0, 1, 65544), 8);
        Check.due("3: an int of 2 to the 32nd and 9 is 9", groundOf(0, 2, (1L << 32) + 9), 9);
    }

    // ---- promise 4

    private static void toldAtFirst() {
        int[] first = {5, 20, 10, 100, 100};
        String[] names = {"WOODS", "HILLS", "NOISE", "EAR", "LEVEL"};
        for (int what = 0; what < 5; what++) {
            AirParted x = new AirParted();
            Check.due("4: " + names[what] + " at first", x.set(what, 3), first[what]);
            Check.due("4: " + names[what] + " is what it was then", x.set(what, 4), 3);
            for (int other = 0; other < 5; other++) {
                if (other != what) {
                    Check.due("4: set of " + names[what] + " leaves " + names[other], x.set(other, 7), first[other]);
                }
            }
        }
    }

    private static void setIsBounded() {
        int[] least = {0, 0, 1, 1, 1};
        int[] greatest = {50, 200, 10000, 1000000, 1000000};
        for (int what = 0; what < 5; what++) {
            int which = what;
            Refusal.bounds("4: what is told " + what, States::some, (x, v) -> x.set(which, v), least[what], greatest[what]);
            AirParted x = new AirParted();
            x.set(what, least[what]);
            Check.due("4: the least is told, " + what, x.set(what, greatest[what]), least[what]);
            Check.due("4: the greatest is told, " + what, x.set(what, 1), greatest[what]);
        }
        Refusal.bounds("4: which", States::some, (x, v) -> x.set(v, 1), 0, 4);
        Refusal.bounds("4: which, of a new object", States::fresh, (x, v) -> x.set(v, 50), 0, 4);
    }

    // ---- promise 5

    private static void lossIsBounded() {
        for (int m = 0; m < 2; m++) {
            int mood = m;
            Refusal.bounds("5: the one cell", States::some, (x, v) -> x.loss(v, 0, 0, 0, mood), 0, States.CELLS - 1);
            Refusal.bounds("5: the one MAST", States::some, (x, v) -> x.loss(1, v, 20, 0, mood), 0, 20);
            Refusal.bounds("5: the other cell", States::some, (x, v) -> x.loss(0, 0, v, 0, mood), 0, States.CELLS - 1);
            Refusal.bounds("5: the other MAST", States::some, (x, v) -> x.loss(1, 0, 20, v, mood), 0, 20);
        }
        Refusal.bounds("5: MOOD", States::some, (x, v) -> x.loss(1, 5, 20, 5, v), 0, 1);
        Refusal.bad("5: MOOD 2 on one cell", States::fresh, x -> x.loss(1, 0, 1, 0, 2));
        Refusal.bad("5: MAST 21 on one cell", States::fresh, x -> x.loss(1, 21, 1, 0, 0));
    }

    private static void nothingIsBetween() {
        AirParted x = new AirParted();
        x.sheet(0, 0, 100);
        x.sheet(1, 0, 100);
        for (int c = 0; c < 100; c++) {
            x.put(0, 0, c, 99);
            x.put(1, 0, c, 9);
        }
        for (int mood = 0; mood < 2; mood++) {
            Check.due("5: on the same cell", x.loss(55, 0, 55, 0, mood), 1);
            Check.due("5: on the same cell, with MASTS", x.loss(55, 20, 55, 3, mood), 1);
            Check.due("5: one to the right", x.loss(55, 0, 56, 0, mood), 2);
            Check.due("5: one to the left", x.loss(55, 0, 54, 0, mood), 2);
            Check.due("5: one down", x.loss(55, 0, 65, 0, mood), 2);
            Check.due("5: one up", x.loss(55, 0, 45, 0, mood), 2);
            Check.due("5: one slantwise", x.loss(55, 0, 66, 0, mood), 3);
            Check.due("5: one slantwise back", x.loss(55, 0, 44, 0, mood), 3);
        }
    }

    /** Three cells in a row, each with a HILL and a WOOD. */
    private static AirParted three(int hillA, int hill, int hillB, int woodA, int wood, int woodB) {
        AirParted x = new AirParted();
        x.land(3, 1);
        x.sheet(0, 1, 3);
        x.sheet(1, 1, 3);
        int[] hills = {hillA, hill, hillB};
        int[] woods = {woodA, wood, woodB};
        for (int c = 0; c < 3; c++) {
            x.put(0, 1, c, hills[c]);
            x.put(1, 1, c, woods[c]);
        }
        return x;
    }

    private static void oneIsBetween() {
        Check.due("5: nothing on it", three(0, 0, 0, 0, 0, 0).loss(0, 0, 2, 0, 0), 5);
        Check.due("5: a WOOD of 1", three(0, 0, 0, 0, 1, 0).loss(0, 0, 2, 0, 0), 5 + 5);
        Check.due("5: a WOOD of 9", three(0, 0, 0, 0, 9, 0).loss(0, 0, 2, 0, 0), 5 + 45);
        Check.due("5: a HILL of 1", three(0, 1, 0, 0, 0, 0).loss(0, 0, 2, 0, 0), 5 + 20);
        Check.due("5: a HILL of 99", three(0, 99, 0, 0, 0, 0).loss(0, 0, 2, 0, 0), 5 + 1980);
        Check.due("5: both", three(0, 99, 0, 0, 9, 0).loss(2, 0, 0, 0, 1), 5 + 45 + 1980);
    }

    private static void endsAreNotBetween() {
        Check.due("5: WOODS of the ends are not counted", three(0, 0, 0, 9, 0, 9).loss(0, 0, 2, 0, 1), 5);
        Check.due("5: HILLS of the ends cost nothing", three(99, 0, 99, 0, 0, 0).loss(0, 0, 2, 0, 1), 5);
        Check.due("5: nor does one of them", three(99, 0, 0, 0, 0, 0).loss(0, 0, 2, 0, 1), 5);
        AirParted x = new AirParted();
        x.land(20, 1);
        x.sheet(0, 0, 20);
        x.sheet(1, 0, 20);
        x.put(1, 0, 1, 1);
        x.put(1, 0, 18, 1);
        Check.due("5: the first and the last between are counted", x.loss(0, 0, 19, 0, 0), 362 + 10);
        x.put(1, 0, 0, 9);
        x.put(1, 0, 19, 9);
        Check.due("5: the ends are not", x.loss(0, 0, 19, 0, 0), 362 + 10);
    }

    private static void kindAndWorst() {
        AirParted x = new AirParted();
        x.land(3, 1);
        Check.due("5: MOOD 0, what is UNKNOWN is 0", x.loss(0, 0, 2, 0, 0), 5);
        Check.due("5: MOOD 1, a HILL of 99 and a WOOD of 9", x.loss(0, 0, 2, 0, 1), 5 + 45 + 1980);
        x.sheet(0, 0, 3);
        Check.due("5: MOOD 1, the HILL is known", x.loss(0, 0, 2, 0, 1), 5 + 45);
        x.lose(0);
        x.sheet(1, 0, 3);
        Check.due("5: MOOD 1, the WOOD is known", x.loss(0, 0, 2, 0, 1), 5 + 1980);
        x.put(1, 0, 1, 10);
        Check.due("5: MOOD 1, a WOOD of 10 is 9", x.loss(0, 0, 2, 0, 1), 5 + 45 + 1980);
        Check.due("5: MOOD 0, a WOOD of 10 is 0", x.loss(0, 0, 2, 0, 0), 5);
        x.sheet(0, 0, 3);
        x.put(0, 0, 1, 100);
        Check.due("5: MOOD 1, a HILL of 100 is 99", x.loss(0, 0, 2, 0, 1), 5 + 45 + 1980);
        Check.due("5: MOOD 0, a HILL of 100 is 0", x.loss(0, 0, 2, 0, 0), 5);
        x.put(0, 0, 1, 4);
        x.put(1, 0, 1, 4);
        Check.due("5: what is known is alike in MOOD 0", x.loss(0, 0, 2, 0, 0), 5 + 20 + 80);
        Check.due("5: and in MOOD 1", x.loss(0, 0, 2, 0, 1), 5 + 20 + 80);
        x.put(0, 0, 1, 99);
        Check.due("5: an UNKNOWN HILL is no more than 99", x.loss(0, 0, 2, 0, 1), 5 + 20 + 1980);
    }

    private static void unknownEndsAreZero() {
        Check.due("5: MOOD 1, both ends UNKNOWN", three(-1, 5, -1, -1, 0, -1).loss(0, 0, 2, 0, 1), 5 + 100);
        Check.due("5: MOOD 0, both ends UNKNOWN", three(-1, 5, -1, -1, 0, -1).loss(0, 0, 2, 0, 0), 5 + 100);
        Check.due("5: MOOD 1, the one end UNKNOWN", three(100, 5, 4, 0, 0, 0).loss(0, 0, 2, 0, 1), 5 + 60);
        Check.due("5: MOOD 1, the other end UNKNOWN", three(4, 5, 100, 0, 0, 0).loss(0, 0, 2, 0, 1), 5 + 60);
        Check.due("5: a MAST stands on it yet", three(-1, 5, -1, 0, 0, 0).loss(0, 3, 2, 3, 1), 5 + 40);
    }

    private static void aboveTheLineOfSight() {
        AirParted x = three(10, 10, 10, 0, 0, 0);
        Check.due("5: a HILL at the line costs nothing", x.loss(0, 0, 2, 0, 0), 5);
        x.put(0, 1, 1, 11);
        Check.due("5: one above it costs once", x.loss(0, 0, 2, 0, 0), 5 + 20);
        x.put(0, 1, 1, 9);
        Check.due("5: one below it gives nothing back", x.loss(0, 0, 2, 0, 0), 5);
        x.put(0, 1, 1, 0);
        Check.due("5: nor does one far below it", x.loss(0, 20, 2, 20, 0), 5);
        AirParted y = new AirParted();
        y.land(4, 1);
        y.sheet(0, 1, 4);
        y.put(0, 1, 1, 30);
        Check.due("5: what is far below does not lessen what is above", y.loss(0, 20, 3, 20, 0), 10 + 200);
    }

    private static void sightIsFromMastsAndHills() {
        AirParted x = three(0, 20, 0, 0, 0, 0);
        Check.due("5: MASTS of 0", x.loss(0, 0, 2, 0, 0), 5 + 400);
        Check.due("5: the one MAST lifts the middle by half", x.loss(0, 20, 2, 0, 0), 5 + 200);
        Check.due("5: so does the other", x.loss(0, 0, 2, 20, 0), 5 + 200);
        Check.due("5: both lift it whole", x.loss(0, 20, 2, 20, 0), 5);
        x.put(0, 1, 0, 10);
        Check.due("5: the HILL of the one is below its MAST", x.loss(0, 10, 2, 0, 0), 5 + 200);
        x.put(0, 1, 2, 10);
        Check.due("5: the HILL of the other likewise", x.loss(0, 10, 2, 10, 0), 5);
        AirParted y = new AirParted();
        y.land(5, 1);
        y.sheet(0, 1, 5);
        for (int c = 1; c < 4; c++) {
            y.put(0, 1, c, 20);
        }
        // The line from 0 to 20 is at 5, 10, 15: 15, 10, 5 above.
        Check.due("5: the line rises by i by n", y.loss(0, 0, 4, 20, 0), 17 + 20 * 30);
        y.put(0, 1, 1, 5);
        y.put(0, 1, 2, 10);
        y.put(0, 1, 3, 15);
        Check.due("5: a slope at the line", y.loss(0, 0, 4, 20, 0), 17);
        Check.due("5: the same slope from the wrong side", y.loss(0, 20, 4, 0, 0), 17 + 20 * 10);
    }

    private static void howMuchAboveIsCut() {
        AirParted x = three(0, 10, 0, 0, 0, 0);
        Check.due("5: 9 and a half above is 9", x.loss(0, 1, 2, 0, 0), 5 + 180);
        x.put(0, 1, 1, 1);
        Check.due("5: a half above is nothing", x.loss(0, 1, 2, 0, 0), 5);
        Check.due("5: a half below is nothing", x.loss(0, 1, 2, 2, 0), 5);
        AirParted y = new AirParted();
        y.land(4, 1);
        y.sheet(0, 1, 4);
        y.put(0, 1, 1, 2);
        y.put(0, 1, 2, 2);
        // The line from 0 to 1 is at 1/3 and 2/3: 1 2/3 and 1 1/3 above, each cut, not their sum of 3.
        Check.due("5: each cell's is cut by itself", y.loss(0, 0, 3, 1, 0), 10 + 40);
        y.set(1, 3);
        Check.due("5: it is cut ahead of HILLS times it", y.loss(0, 0, 3, 1, 0), 10 + 6);
    }

    private static void halfACellGoesUp() {
        AirParted x = new AirParted();
        x.land(3, 2);
        x.sheet(1, 0, 6);
        x.put(1, 0, 1, 1);
        x.put(1, 0, 4, 3);
        Check.due("5: from (0, 0) to (2, 1) by (1, 1)", x.loss(0, 0, 5, 0, 0), 6 + 15);
        Check.due("5: from (2, 1) to (0, 0) by (1, 1)", x.loss(5, 0, 0, 0, 0), 6 + 15);
        Check.due("5: from (0, 1) to (2, 0) by (1, 1)", x.loss(3, 0, 2, 0, 0), 6 + 15);
        Check.due("5: from (2, 0) to (0, 1) by (1, 1)", x.loss(2, 0, 3, 0, 0), 6 + 15);
        AirParted y = new AirParted();
        y.land(2, 3);
        y.sheet(1, 0, 6);
        y.put(1, 0, 2, 1);
        y.put(1, 0, 3, 3);
        Check.due("5: from (0, 0) to (1, 2) by (1, 1)", y.loss(0, 0, 5, 0, 0), 6 + 15);
        Check.due("5: from (1, 2) to (0, 0) by (1, 1)", y.loss(5, 0, 0, 0, 0), 6 + 15);
        Check.due("5: from (1, 0) to (0, 2) by (1, 1)", y.loss(1, 0, 4, 0, 0), 6 + 15);
        Check.due("5: from (0, 2) to (1, 0) by (1, 1)", y.loss(4, 0, 1, 0, 0), 6 + 15);
    }

    private static void stepsBelowZeroGoDown() {
        AirParted x = new AirParted();
        x.land(4, 3);
        x.sheet(1, 0, 12);
        for (int c = 0; c < 12; c++) {
            x.put(1, 0, c, c % 10);
        }
        // From (3, 2) to (0, 1): y is 2 less a third and a half more (2), less two thirds (1): cells (2, 2) 10 and (1, 1) 5.
        Check.due("5: thirds down", x.loss(11, 0, 4, 0, 0), 11 + 5 * (0 + 5));
        // From (3, 2) to (0, 0): y is 2 less 2 thirds (1), less 4 thirds (1): cells (2, 1) 6 and (1, 1) 5.
        Check.due("5: two thirds down", x.loss(11, 0, 0, 0, 0), 14 + 5 * (6 + 5));
        // From (0, 2) to (3, 1): (1, 2) 9 and (2, 1) 6.
        Check.due("5: thirds up to the right", x.loss(8, 0, 7, 0, 0), 11 + 5 * (9 + 6));
    }

    private static void theGreatestLoss() {
        AirParted x = new AirParted();
        x.land(20, 20);
        x.set(0, 50);
        x.set(1, 200);
        Check.due("5: across at the worst", x.loss(0, 0, 399, 0, 1), 723 + 18 * (450 + 19800));
        Check.due("5: across, the other corners", x.loss(19, 0, 380, 0, 1), 723 + 18 * (450 + 19800));
        Check.due("5: across, kind", x.loss(0, 0, 399, 0, 0), 723);
        Check.due("5: across with the highest MASTS", x.loss(0, 20, 399, 20, 1), 723 + 18 * (450 + 200 * 79));
        x.sender(4, 0, 1000000, 0, 1, 399);
        Check.due("11: GOT across at the worst", x.got(0, 399), 100000000 / 365223);
    }

    private static void nothingToldCostsNothing() {
        AirParted x = new AirParted();
        x.set(0, 0);
        Check.due("5: WOODS 0", x.loss(0, 0, 2, 0, 1), 5 + 1980);
        x.set(1, 0);
        Check.due("5: HILLS 0", x.loss(0, 0, 2, 0, 1), 5);
        x.set(0, 1);
        Check.due("5: WOODS 1", x.loss(0, 0, 2, 0, 1), 5 + 9);
        x.set(1, 1);
        Check.due("5: HILLS 1", x.loss(0, 0, 2, 0, 1), 5 + 9 + 99);
        x.set(0, 50);
        x.set(1, 200);
        Check.due("5: the most of both", x.loss(0, 0, 2, 0, 1), 5 + 450 + 19800);
    }

    private static void theSameBothWays() {
        Random random = new Random(4);
        for (int land = 0; land < 12; land++) {
            AirParted x = new AirParted();
            int w = 1 + random.nextInt(8);
            int h = 1 + random.nextInt(8);
            x.land(w, h);
            x.sheet(0, 0, w * h);
            x.sheet(1, 0, w * h);
            for (int c = 0; c < w * h; c++) {
                x.put(0, 0, c, random.nextInt(111) - 5);
                x.put(1, 0, c, random.nextInt(12) - 1);
            }
            for (int k = 0; k < 150; k++) {
                int a = random.nextInt(w * h), b = random.nextInt(w * h), m = random.nextInt(21), n = random.nextInt(21);
                Check.due("5: the same both ways", x.loss(a, m, b, n, k % 2), x.loss(b, n, a, m, k % 2));
            }
        }
    }

    // ---- promise 6

    private static void passIsBounded() {
        Refusal.bounds("6: TICKS", States::some, (x, v) -> x.pass(v), 1, 1000);
        Refusal.bounds("6: TICKS of a new object", States::fresh, (x, v) -> x.pass(v), 1, 1000);
    }

    private static void ticksAddUp() {
        AirParted x = new AirParted();
        Check.due("6: the TICK is 0 at first", x.count(8), 0);
        Check.due("6: pass(1)", x.pass(1), 1);
        Check.due("6: the TICK then", x.count(8), 1);
        Check.due("6: pass(1000)", x.pass(1000), 1001);
        Check.due("6: the TICK then", x.count(8), 1001);
        AirParted y = new AirParted();
        for (int k = 1; k <= 510; k++) {
            Check.due("6: the greatest TICK of an object", y.pass(1000), 1000 * k);
        }
    }
}
