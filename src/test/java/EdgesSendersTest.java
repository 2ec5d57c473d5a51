/** Part 2 of the terms and promises 7 to 14, edge by edge: senders, where they stand, who is heard and why not. */
public final class EdgesSendersTest {
    private static final int NONE = AirParted.NONE, BAD = AirParted.BAD, NOT = AirParted.NOT, FULL = AirParted.FULL;
    private static final int LEAST = Integer.MIN_VALUE;

    public static void main(String[] args) {
        senderIsBounded();
        sendersAreNumbered();
        twentySendersAreAll();
        whatASenderIsAtFirst();
        theLeastAndTheGreatestSender();
        aboutIsBounded();
        changeIsBounded();
        changeTellsWhatItWas();
        changeOfAnotherKind();
        aMoverWithoutARow();
        aMoverByItsRow();
        aMoverBehindItsRow();
        aMoverByEachForm();
        aMoverByTheHills();
        othersStay();
        slotsWrap();
        slotsOfOthersDoNotHop();
        onAndOff();
        gotIsBounded();
        gotIsCut();
        gotOfAGuardedOne();
        gotByMasts();
        heardIsRefused();
        heardAtTheEdge();
        heardOfGreatNumbers();
        heardOfTheLeastAndTheGreatestMuch();
        whoIsInTheWay();
        hoppersComeAndGo();
        guardedOnesAreHeardAtTheWorst();
        drownsIsRefused();
        drownsFromNoiseOn();
        causeIsRefused();
        causeOfOneHeard();
        causeNotEvenAlone();
        causeTheFewest();
        causeTheLeastAsBits();
        causeOfTenOthers();
        causeOfElevenOthers();
        Check.end();
    }

    // ---- promise 7

    private static void senderIsBounded() {
        Refusal.bounds("7: KIND", States::some, (x, v) -> x.sender(v, 0, 1, 0, 1, 0), 0, 5);
        Refusal.bounds("7: cell", States::some, (x, v) -> x.sender(0, v, 1, 0, 1, 0), 0, States.CELLS - 1);
        Refusal.bounds("7: STRENGTH", States::some, (x, v) -> x.sender(0, 0, v, 0, 1, 0), 1, 1000000);
        Refusal.bounds("7: MAST", States::some, (x, v) -> x.sender(0, 0, 1, v, 1, 0), 0, 20);
        Refusal.bounds("7: MUCH", States::some, (x, v) -> x.sender(0, 0, 1, 0, v, 0), 1, 10000);
        Refusal.bounds("7: GOAL", States::some, (x, v) -> x.sender(0, 0, 1, 0, 1, v), 0, States.CELLS - 1);
        Refusal.bounds("7: cell of a new object", States::fresh, (x, v) -> x.sender(0, v, 1, 0, 1, 0), 0, 99);
        Refusal.bounds("7: GOAL of a new object", States::fresh, (x, v) -> x.sender(0, 0, 1, 0, 1, v), 0, 99);
    }

    private static void sendersAreNumbered() {
        AirParted x = new AirParted();
        Check.due("7: the first", x.sender(5, 99, 1, 0, 1, 0), 0);
        Check.due("7: a refused one", x.sender(6, 99, 1, 0, 1, 0), BAD);
        Check.due("7: has no number", x.sender(0, 99, 1, 0, 1, 0), 1);
        Check.due("7: another on the same cell", x.sender(0, 99, 1, 0, 1, 0), 2);
        Check.due("7: how many", x.count(0), 3);
    }

    private static void twentySendersAreAll() {
        AirParted x = new AirParted();
        for (int i = 0; i < 20; i++) {
            Check.due("7: SENDER " + i, x.sender(i % 6, i, 1, 0, 1, i), i);
        }
        Check.due("7: the twentieth is there", x.about(19, 9), 19);
        Check.due("7: the twenty-first is not", x.sender(0, 0, 1, 0, 1, 0), FULL);
        Check.due("7: how many", x.count(0), 20);
        Refusal.due("7: FULL", States::full, y -> y.sender(0, 0, 1, 0, 1, 0), FULL);
        Refusal.bad("7: BAD ahead of FULL, KIND", States::full, y -> y.sender(6, 0, 1, 0, 1, 0));
        Refusal.bad("7: BAD ahead of FULL, cell", States::full, y -> y.sender(0, 30, 1, 0, 1, 0));
        Refusal.bad("7: BAD ahead of FULL, STRENGTH", States::full, y -> y.sender(0, 0, 0, 0, 1, 0));
        Refusal.bad("7: BAD ahead of FULL, MAST", States::full, y -> y.sender(0, 0, 1, 21, 1, 0));
        Refusal.bad("7: BAD ahead of FULL, MUCH", States::full, y -> y.sender(0, 0, 1, 0, 0, 0));
        Refusal.bad("7: BAD ahead of FULL, GOAL", States::full, y -> y.sender(0, 0, 1, 0, 1, -1));
        Refusal.due("7: FULL with all OFF", EdgesSendersTest::fullAndOff, y -> y.sender(0, 0, 1, 0, 1, 0), FULL);
    }

    private static AirParted fullAndOff() {
        AirParted x = new AirParted();
        for (int i = 0; i < 20; i++) {
            x.sender(i % 6, i, 1, 0, 1, i);
            x.on(i, false);
        }
        return x;
    }

    private static void whatASenderIsAtFirst() {
        for (int kind = 0; kind < 6; kind++) {
            AirParted x = new AirParted();
            x.sender(kind, 1, 2, 3, 4, 5);
            Check.due("7: WORTH is 1 at first, KIND " + kind, x.about(0, 6), 1);
            Check.due("7: SLOT is 0 at first, KIND " + kind, x.about(0, 7), 0);
            Check.due("7: its own SLOT is 0 at first, KIND " + kind, x.about(0, 10), 0);
            Check.due("7: ON at first, KIND " + kind, x.about(0, 8), 1);
            Check.due("7: ON already, KIND " + kind, x.on(0, true), 0);
            Check.due("9: STEP is 1 at first, KIND " + kind, x.change(0, 3, 0), kind == 2 || kind == 5 ? 1 : BAD);
            Check.due("9: ROW is NONE at first, KIND " + kind, x.change(0, 4, 0), kind == 1 ? NONE : BAD);
        }
    }

    private static void theLeastAndTheGreatestSender() {
        AirParted x = new AirParted();
        x.land(20, 20);
        x.sender(0, 0, 1, 0, 1, 0);
        x.sender(5, 399, 1000000, 20, 10000, 399);
        int[] least = {0, 0, 1, 0, 1, 0, 1, 0, 1, 0, 0};
        int[] greatest = {5, 399, 1000000, 20, 10000, 399, 1, 0, 1, 399, 0};
        for (int what = 0; what <= 10; what++) {
            Check.due("8: about(0, " + what + ") of the least", x.about(0, what), least[what]);
            Check.due("8: about(1, " + what + ") of the greatest", x.about(1, what), greatest[what]);
        }
    }

    // ---- promise 8

    private static void aboutIsBounded() {
        Refusal.bounds("8: SENDER", States::some, (x, v) -> x.about(v, 0), 0, States.SENDERS - 1, LEAST);
        Refusal.bounds("8: what", States::some, (x, v) -> x.about(0, v), 0, 10, LEAST);
        Refusal.bounds("8: SENDER of twenty", States::full, (x, v) -> x.about(v, 10), 0, 19, LEAST);
        Refusal.due("8: no SENDERS", States::fresh, x -> x.about(0, 0), LEAST);
    }

    // ---- promise 9

    private static void changeIsBounded() {
        Refusal.bounds("9: SENDER", States::some, (x, v) -> x.change(v, 0, 1), 0, States.SENDERS - 1);
        Refusal.bounds("9: what, of a HOPPER", States::some, (x, v) -> x.change(States.HOPPER, v, 1), 0, 3);
        Refusal.bad("9: what 5, of a MOVER", States::some, x -> x.change(States.MOVER, 5, 1));
        Refusal.bad("9: what -1, of a MOVER", States::some, x -> x.change(States.MOVER, -1, 1));
        Refusal.taken("9: what 4, of a MOVER,", States::some, x -> x.change(States.MOVER, 4, 1), BAD);
        for (int kind = 0; kind < 6; kind++) {
            int which = kind;
            Refusal.bounds("9: STRENGTH of KIND " + kind, States::some, (x, v) -> x.change(which, 0, v), 1, 1000000);
            Refusal.bounds("9: WORTH of KIND " + kind, States::some, (x, v) -> x.change(which, 1, v), 0, 1000);
            Refusal.bounds("9: SLOT of KIND " + kind, States::some, (x, v) -> x.change(which, 2, v), 0, 11);
        }
        Refusal.bounds("9: STEP of a HOPPER", States::some, (x, v) -> x.change(States.HOPPER, 3, v), 0, 11);
        Refusal.bounds("9: STEP of a CHEAT", States::some, (x, v) -> x.change(States.CHEAT, 3, v), 0, 11);
        Refusal.bounds("9: ROW of a MOVER", States::some, (x, v) -> x.change(States.MOVER, 4, v), NONE, 5);
        Refusal.bad("9: no SENDERS", States::fresh, x -> x.change(0, 0, 1));
    }

    private static void changeTellsWhatItWas() {
        AirParted x = new AirParted();
        x.sender(2, 0, 10, 0, 1, 0);
        x.sender(1, 0, 10, 0, 1, 0);
        int[][] rows = {{0, 0, 10, 1000000, 1}, {0, 1, 1, 1000, 0}, {0, 2, 0, 11, 0}, {0, 3, 1, 11, 0}, {1, 4, NONE, 5, 0}};
        for (int[] row : rows) {
            Check.due("9: what it was at first, " + row[1], x.change(row[0], row[1], row[3]), row[2]);
            Check.due("9: the greatest was taken, " + row[1], x.change(row[0], row[1], row[4]), row[3]);
            Check.due("9: the least was taken, " + row[1], x.change(row[0], row[1], row[4]), row[4]);
        }
        Check.due("9: ROW NONE again", x.change(1, 4, NONE), 0);
        Check.due("9: ROW was NONE", x.change(1, 4, 2), NONE);
        Check.due("9: STRENGTH of the other is as it was", x.about(1, 2), 10);
        Check.due("9: an OFF one is changed too", x.on(0, false) + x.change(0, 0, 7), 1 + 1);
        Check.due("9: an OFF one has been changed", x.about(0, 2), 7);
    }

    private static void changeOfAnotherKind() {
        for (int kind : new int[] {0, 1, 3, 4}) {
            Refusal.bad("9: STEP of KIND " + kind, States::some, x -> x.change(kind, 3, 1));
            Refusal.bad("9: STEP 0 of KIND " + kind, States::some, x -> x.change(kind, 3, 0));
        }
        for (int kind : new int[] {0, 2, 3, 4, 5}) {
            Refusal.bad("9: ROW of KIND " + kind, States::some, x -> x.change(kind, 4, 1));
            Refusal.bad("9: no ROW of KIND " + kind, States::some, x -> x.change(kind, 4, NONE));
        }
    }

    private static AirParted mover(int row) {
        AirParted x = new AirParted();
        x.sender(1, 7, 100, 0, 1, 0);
        x.change(0, 4, row);
        return x;
    }

    private static void aMoverWithoutARow() {
        AirParted x = new AirParted();
        x.sender(1, 7, 100, 0, 1, 0);
        for (int s = 0; s < 6; s++) {
            x.sheet(s, 3, 5);
        }
        Check.due("8: without a ROW it stands on its own cell", x.about(0, 1), 7);
        x.change(0, 4, 5);
        Check.due("8: with one it goes", x.about(0, 1), 0);
        x.change(0, 4, NONE);
        Check.due("8: without a ROW again it is home", x.about(0, 1), 7);
    }

    private static void aMoverByItsRow() {
        AirParted x = mover(2);
        x.sheet(2, 3, 7);
        long[] row = {0, 99, 100, -1, 1L << 32, Long.MIN_VALUE, 5};
        int[] due = {0, 99, 7, 7, 7, 7, 5};
        for (int t = 0; t < row.length; t++) {
            x.put(2, 3, t, row[t]);
        }
        for (int t = 0; t < row.length; t++) {
            Check.due("8: at TICK " + t + " by item " + row[t], x.about(0, 1), due[t]);
            Check.due("8: its own cell stays at TICK " + t, x.about(0, 9), 7);
            Check.due("11: GOT is from there", x.got(0, due[t]), 10000);
            x.pass(1);
        }
    }

    private static void aMoverBehindItsRow() {
        AirParted x = mover(2);
        Check.due("8: its ROW is LOST", x.about(0, 1), 7);
        x.sheet(2, 3, 0);
        Check.due("8: its ROW has no items", x.about(0, 1), 7);
        x.sheet(2, 3, 2);
        x.put(2, 3, 1, 42);
        Check.due("8: at TICK 0 item 0", x.about(0, 1), 0);
        x.pass(1);
        Check.due("8: at TICK 1 the last item", x.about(0, 1), 42);
        x.pass(1);
        Check.due("8: at TICK 2 there is none: home", x.about(0, 1), 7);
        x.pass(1000);
        Check.due("8: far behind its ROW: home", x.about(0, 1), 7);
        Check.due("8: no FINDING by it", x.count(9), 0);
        AirParted y = mover(4);
        y.sheet(4, 2, 400);
        y.put(4, 2, 399, 88);
        y.pass(399);
        Check.due("8: at TICK 399 item 399", y.about(0, 1), 88);
        y.pass(1);
        Check.due("8: at TICK 400 home", y.about(0, 1), 7);
        y.sheet(4, 2, 1);
        Check.due("8: a shorter ROW", y.about(0, 1), 7);
        AirParted z = mover(4);
        z.sheet(4, 2, 1);
        z.lose(4);
        Check.due("8: its ROW is LOST again", z.about(0, 1), 7);
    }

    private static void aMoverByEachForm() {
        for (int form = 0; form < 4; form++) {
            AirParted x = new AirParted();
            x.land(20, 20);
            x.sender(1, 7, 100, 0, 1, 0);
            x.change(0, 4, 5);
            x.sheet(5, form, 2);
            x.put(5, form, 0, 127);
            x.put(5, form, 1, 200);
            Check.due("8: cell 127 by FORM " + form, x.about(0, 1), 127);
            x.pass(1);
            Check.due("8: cell 200 by FORM " + form, x.about(0, 1), form == 0 ? 7 : 200);
        }
    }

    private static void aMoverByTheHills() {
        AirParted x = mover(0);
        x.sheet(0, 0, 1);
        x.put(0, 0, 0, 33);
        Check.due("8: SHEET 0 is a ROW as well", x.about(0, 1), 33);
        Check.due("3: and HILLS", x.ground(0, 0), 33);
        AirParted y = mover(1);
        y.sheet(1, 0, 1);
        y.put(1, 0, 0, 34);
        Check.due("8: SHEET 1 is a ROW as well", y.about(0, 1), 34);
    }

    private static void othersStay() {
        AirParted x = new AirParted();
        for (int kind = 0; kind < 6; kind++) {
            x.sender(kind, 50 + kind, 1, 0, 1, 0);
            x.change(kind, 4, 2);
        }
        x.sheet(2, 2, 3);
        for (int t = 0; t < 3; t++) {
            for (int kind = 0; kind < 6; kind++) {
                Check.due("8: cell of KIND " + kind + " at TICK " + t, x.about(kind, 1), kind == 1 ? 0 : 50 + kind);
            }
            x.pass(1);
        }
    }

    private static int slotThen(int kind, int slot, int step, int tick) {
        AirParted x = new AirParted();
        x.sender(kind, 0, 1, 0, 1, 0);
        x.change(0, 2, slot);
        x.change(0, 3, step);
        if (tick > 0) {
            x.pass(tick);
        }
        Check.due("8: its own SLOT stays", x.about(0, 10), slot);
        return x.about(0, 7);
    }

    private static void slotsWrap() {
        for (int kind : new int[] {2, 5}) {
            Check.due("8: at TICK 0 it is in its own", slotThen(kind, 11, 11, 0), 11);
            Check.due("8: one more", slotThen(kind, 10, 1, 1), 11);
            Check.due("8: behind 11 comes 0", slotThen(kind, 11, 1, 1), 0);
            Check.due("8: 0 and 12 times 1", slotThen(kind, 0, 1, 12), 0);
            Check.due("8: STEP 0 stays", slotThen(kind, 5, 0, 1000), 5);
            Check.due("8: STEP 11 goes back by one", slotThen(kind, 0, 11, 1), 11);
            Check.due("8: 11 and 11 times 1000", slotThen(kind, 11, 11, 1000), 7);
            Check.due("8: STEP 6", slotThen(kind, 7, 6, 3), 1);
        }
        AirParted x = new AirParted();
        x.sender(2, 0, 1, 0, 1, 0);
        x.change(0, 2, 11);
        x.change(0, 3, 11);
        for (int t = 1; t <= 500; t++) {
            x.pass(1000);
        }
        Check.due("8: far on", x.about(0, 7), (11 + 11 * 500000) % 12);
    }

    private static void slotsOfOthersDoNotHop() {
        for (int kind : new int[] {0, 1, 3, 4}) {
            Check.due("8: SLOT of KIND " + kind + " stays", slotThen(kind, 9, 5, 7), 9);
        }
    }

    // ---- promise 10

    private static void onAndOff() {
        Refusal.bounds("10: SENDER, ON", States::some, (x, v) -> x.on(v, true), 0, States.SENDERS - 1);
        Refusal.bounds("10: SENDER, OFF", States::some, (x, v) -> x.on(v, false), 0, States.SENDERS - 1);
        Refusal.bad("10: no SENDERS", States::fresh, x -> x.on(0, true));
        Refusal.due("10: 0, it is ON already", States::some, x -> x.on(1, true), 0);
        Refusal.due("10: 0, it is OFF already", States::some, x -> x.on(0, false), 0);
        AirParted x = States.some();
        Check.due("10: OFF", x.on(1, false), 1);
        Check.due("10: that is told", x.about(1, 8), 0);
        Check.due("10: ON again", x.on(1, true), 1);
        Check.due("10: that is told", x.about(1, 8), 1);
        Check.due("10: others are as they were", x.about(0, 8), 0);
        for (int i = 0; i < States.SENDERS; i++) {
            x.on(i, false);
        }
        Check.due("53: none is ON", x.count(1), 0);
        Check.due("53: all are there", x.count(0), States.SENDERS);
    }

    // ---- promise 11

    private static void gotIsBounded() {
        Refusal.bounds("11: SENDER", States::some, (x, v) -> x.got(v, 0), 0, States.SENDERS - 1);
        Refusal.bounds("11: cell", States::some, (x, v) -> x.got(1, v), 0, States.CELLS - 1);
        Refusal.bad("11: no SENDERS", States::fresh, x -> x.got(0, 0));
    }

    private static int gotFar(int strength, int cell) {
        AirParted x = new AirParted();
        x.land(20, 1);
        x.sender(0, 0, strength, 0, 1, 0);
        return x.got(0, cell);
    }

    private static void gotIsCut() {
        Check.due("11: the least on its own cell", gotFar(1, 0), 100);
        Check.due("11: the greatest on its own cell", gotFar(1000000, 0), 100000000);
        Check.due("11: 100 by 50", gotFar(1, 7), 2);
        Check.due("11: 100 by 65 is cut to 1", gotFar(1, 8), 1);
        Check.due("11: 100 by 82 is cut to 1", gotFar(1, 9), 1);
        Check.due("11: 100 by 101 is cut to 0", gotFar(1, 10), 0);
        Check.due("11: 200 by 101 is cut to 1", gotFar(2, 10), 1);
        Check.due("11: 10100 by 101", gotFar(101, 10), 100);
        Check.due("11: 10000 by 101", gotFar(100, 10), 99);
        AirParted x = new AirParted();
        x.sender(0, 0, 1, 0, 1, 0);
        x.on(0, false);
        Check.due("11: of an OFF one too", x.got(0, 0), 100);
    }

    private static void gotOfAGuardedOne() {
        for (int kind = 0; kind < 6; kind++) {
            AirParted x = new AirParted();
            x.sender(kind, 0, 10000, 0, 1, 0);
            Check.due("11: two off, of KIND " + kind, x.got(0, 2), kind == 4 ? 1000000 / 2030 : 200000);
            Check.due("11: one off, of KIND " + kind, x.got(0, 1), 500000);
            x.sheet(0, 0, 100);
            x.sheet(1, 0, 100);
            Check.due("11: where all is known, of KIND " + kind, x.got(0, 2), 200000);
        }
    }

    private static void gotByMasts() {
        AirParted x = new AirParted();
        x.land(3, 1);
        x.sheet(0, 0, 3);
        x.put(0, 0, 1, 20);
        x.sender(0, 0, 1000, 0, 1, 2);
        x.sender(0, 0, 1000, 20, 1, 2);
        Check.due("11: with MAST 0", x.got(0, 2), 100000 / 405);
        Check.due("11: with MAST 20, to MAST 0", x.got(1, 2), 100000 / 205);
        x.put(0, 0, 0, 20);
        Check.due("11: from a HILL", x.got(0, 2), 100000 / 205);
        x.put(0, 0, 0, 0);
        x.sender(0, 0, 1000, 19, 1, 2);
        // From 19 to 0 the line is at 9 and a half: 10 and a half above, cut.
        Check.due("11: with MAST 19, to MAST 0", x.got(2, 2), 100000 / 205);
    }

    // ---- promise 12

    private static void heardIsRefused() {
        Refusal.bounds("12: SENDER", States::some, (x, v) -> x.heard(v), 0, States.SENDERS - 1);
        Refusal.bad("12: no SENDERS", States::fresh, x -> x.heard(0));
        Refusal.due("12: OFF", States::some, x -> x.heard(0), NOT);
        Refusal.bounds("12: SENDER of twenty", States::full, (x, v) -> x.heard(v), 0, 19);
    }

    private static void heardAtTheEdge() {
        AirParted x = new AirParted();
        // GOT is 200: 100 times it is 20000.
        x.sender(0, 0, 4, 0, 2000, 1);
        Check.due("12: 20000 to 2000 times 10: just HEARD", x.heard(0), 1);
        x.set(2, 9);
        Check.due("12: to 2000 times 9: HEARD", x.heard(0), 1);
        x.set(2, 11);
        Check.due("12: to 2000 times 11: not", x.heard(0), 0);
        x.set(2, 5);
        x.sender(0, 1, 1, 0, 1, 99);
        Check.due("12: to 2000 times (5 and 100): not", x.heard(0), 0);
        AirParted y = new AirParted();
        // 100 times 100 is 10 times (10 and 990); of 99, 9900 is not.
        y.sender(0, 0, 1, 0, 10, 0);
        y.sender(0, 3, 99, 0, 1, 0);
        Check.due("13: 990 of the other", y.drowns(0), 1000);
        Check.due("12: just HEARD beside the other", y.heard(0), 1);
        y.set(2, 11);
        Check.due("12: not just HEARD beside the other", y.heard(0), 0);
    }

    private static void heardOfGreatNumbers() {
        AirParted x = new AirParted();
        x.set(2, 10000);
        // 100 times 100000000 to 10000 times (10000 and 990000): both 10000000000.
        x.sender(0, 0, 1000000, 0, 10000, 0);
        x.sender(0, 0, 9900, 0, 1, 0);
        Check.due("12: just HEARD, beyond ints", x.heard(0), 1);
        x.change(1, 0, 9901);
        Check.due("12: not HEARD, beyond ints", x.heard(0), 0);
        AirParted y = new AirParted();
        for (int i = 0; i < 20; i++) {
            y.sender(0, 0, 1000000, 0, 10000, 0);
        }
        y.set(2, 10000);
        Check.due("13: the most that can be in the way", y.drowns(7), 1900010000L);
        Check.due("12: against the most that can be", y.heard(7), 0);
        AirParted z = new AirParted();
        for (int i = 0; i < 20; i++) {
            z.sender(0, 0, 1000000, 0, 5, 0);
        }
        // 10000000000 to 5 times 1900000010: HEARD; to 6 times it: not.
        Check.due("12: HEARD against the most", z.heard(19), 1);
        AirParted a = new AirParted();
        for (int i = 0; i < 20; i++) {
            a.sender(0, 0, 1000000, 0, 6, 0);
        }
        Check.due("12: not HEARD against the most", a.heard(19), 0);
    }

    private static void heardOfTheLeastAndTheGreatestMuch() {
        AirParted x = new AirParted();
        x.set(2, 10000);
        x.sender(0, 0, 1, 0, 1, 0);
        Check.due("12: MUCH 1, NOISE 10000: 10000 to 10000", x.heard(0), 1);
        x.sender(0, 0, 1, 0, 2, 0);
        x.change(1, 2, 1);
        Check.due("12: MUCH 2, NOISE 10000", x.heard(1), 0);
        AirParted y = new AirParted();
        y.set(2, 1);
        y.sender(0, 0, 1, 0, 10000, 0);
        Check.due("12: MUCH 10000, NOISE 1: 10000 to 10000", y.heard(0), 1);
        y.set(2, 2);
        Check.due("12: MUCH 10000, NOISE 2", y.heard(0), 0);
        AirParted z = new AirParted();
        z.land(20, 1);
        z.sender(0, 0, 1, 0, 1, 19);
        z.set(2, 1);
        Check.due("12: GOT of 0 is not HEARD", z.heard(0), 0);
    }

    private static void whoIsInTheWay() {
        AirParted x = new AirParted();
        x.sender(0, 0, 1, 0, 100, 0);
        Check.due("13: itself is not", x.drowns(0), 10);
        x.sender(0, 1, 2, 0, 100, 50);
        Check.due("13: one in its SLOT, at the GOAL of the one asked about", x.drowns(0), 110);
        x.change(1, 2, 1);
        Check.due("13: one in another SLOT is not", x.drowns(0), 10);
        x.change(0, 2, 1);
        Check.due("13: where both are in that SLOT", x.drowns(0), 110);
        x.on(1, false);
        Check.due("13: an OFF one is not", x.drowns(0), 10);
        x.on(1, true);
        Check.due("13: ON again it is", x.drowns(0), 110);
        x.set(2, 1);
        Check.due("13: NOISE as told", x.drowns(0), 101);
        x.sender(1, 99, 2, 0, 1, 0);
        x.change(2, 2, 1);
        x.change(2, 4, 3);
        x.sheet(3, 2, 1);
        x.put(3, 2, 0, 0);
        Check.due("13: a MOVER from where it stands at TICK", x.drowns(0), 301);
        x.pass(1);
        Check.due("13: and when it is home again", x.drowns(0), 102);
    }

    private static void hoppersComeAndGo() {
        AirParted x = new AirParted();
        x.sender(0, 0, 1, 0, 100, 0);
        x.change(0, 2, 1);
        x.sender(2, 0, 1, 0, 100, 0);
        x.sender(5, 0, 2, 0, 100, 0);
        x.change(2, 2, 11);
        long[] due = {10, 110, 210, 10};
        for (int t = 0; t < 4; t++) {
            Check.due("13: by the SLOTS at TICK " + t, x.drowns(0), due[t]);
            x.pass(1);
        }
        AirParted y = new AirParted();
        y.sender(2, 0, 1, 0, 100, 0);
        y.sender(2, 0, 2, 0, 100, 0);
        y.change(1, 2, 7);
        y.change(1, 3, 6);
        Check.due("13: two HOPPERS apart", y.drowns(0), 10);
        y.pass(11);
        Check.due("13: two HOPPERS apart at TICK 11", y.drowns(0), 10);
        y.change(1, 3, 4);
        Check.due("13: two HOPPERS together at TICK 11: 11, and 7 and 44", y.about(1, 7), 3);
        y.change(1, 2, 3);
        Check.due("13: 3 and 44", y.drowns(0), 210);
    }

    private static void guardedOnesAreHeardAtTheWorst() {
        AirParted x = new AirParted();
        // Kind: 1000000 by 5 is 200000; at the worst by 2030 it is 492.
        x.sender(4, 0, 10000, 0, 4920, 2);
        Check.due("12: 49200 to 4920 times 10", x.heard(0), 1);
        x.change(0, 0, 9999);
        Check.due("12: the same GOT of 492 of 999900", x.heard(0), 1);
        x.change(0, 0, 9900);
        Check.due("12: less", x.heard(0), 0);
        x.sender(4, 0, 10000, 0, 1, 2);
        Check.due("13: another GUARDED one is in the way in MOOD 0", x.drowns(0), 200010);
        x.sender(0, 2, 5, 0, 1, 2);
        Check.due("13: GUARDED ones are in the way of others in MOOD 0", x.drowns(2), 10 + 198000 + 200000);
    }

    // ---- promise 13

    private static void drownsIsRefused() {
        long bad = Long.MIN_VALUE + 2;
        Refusal.bounds("13: SENDER", States::some, (x, v) -> x.drowns(v), 0, States.SENDERS - 1, bad);
        Refusal.due("13: no SENDERS", States::fresh, x -> x.drowns(0), bad);
        Refusal.due("13: OFF", States::some, x -> x.drowns(0), Long.MIN_VALUE + 3);
    }

    private static void drownsFromNoiseOn() {
        AirParted x = new AirParted();
        x.sender(0, 0, 1000000, 0, 1, 0);
        x.set(2, 1);
        Check.due("13: the least", x.drowns(0), 1);
        x.set(2, 10000);
        Check.due("13: the most NOISE", x.drowns(0), 10000);
        x.sender(0, 99, 1, 0, 1, 0);
        Check.due("13: GOT of 0 is in the way by nothing", x.drowns(0), 10000);
    }

    // ---- promise 14

    private static void causeIsRefused() {
        Refusal.bounds("14: SENDER", States::some, (x, v) -> x.cause(v), 0, States.SENDERS - 1);
        Refusal.bad("14: no SENDERS", States::fresh, x -> x.cause(0));
        Refusal.due("14: OFF", States::some, x -> x.cause(0), NOT);
        Refusal.due("14: FULL", () -> crowd(12, 1), x -> x.cause(3), FULL);
        Refusal.bad("14: BAD ahead of FULL", () -> crowd(12, 1), x -> x.cause(12));
        Refusal.due("14: NOT ahead of FULL", () -> crowd(13, 1), x -> x.cause(12), NOT);
    }

    /** So many on one cell and in one SLOT, each drowned by any other; the thirteenth is OFF. */
    private static AirParted crowd(int many, int strength) {
        AirParted x = new AirParted();
        for (int i = 0; i < many; i++) {
            x.sender(0, 0, strength, 0, 100, 0);
        }
        x.on(12, false);
        return x;
    }

    private static void causeOfOneHeard() {
        AirParted x = new AirParted();
        x.sender(0, 0, 1, 0, 1000, 0);
        Check.due("14: alone, just HEARD", x.cause(0), 0);
        x.set(2, 11);
        Check.due("14: alone, not HEARD", x.cause(0), NONE);
        x.set(2, 1);
        x.sender(0, 3, 1, 0, 1, 0);
        Check.due("14: not HEARD beside another: MUCH 10 times (1 and 10)", x.cause(0), 2);
        x.set(2, 10);
        x.on(1, false);
        Check.due("14: HEARD beside an OFF one", x.cause(0), 0);
    }

    private static void causeNotEvenAlone() {
        AirParted x = new AirParted();
        x.sender(0, 0, 1, 0, 1001, 0);
        x.sender(0, 0, 5, 0, 1, 0);
        Check.due("14: not even alone, with another", x.cause(0), NONE);
        x.change(0, 0, 2);
        Check.due("14: alone", x.cause(0), 2);
    }

    private static void causeTheFewest() {
        AirParted x = new AirParted();
        x.set(2, 100);
        // 1000 of it, MUCH 2: so up to 400 beside the NOISE.
        x.sender(0, 0, 10, 0, 200, 0);
        for (int s : new int[] {1, 1, 1, 1, 4}) {
            x.sender(0, 0, s, 0, 1, 0);
        }
        // 100 four times and 400: without 400 it is HEARD; so it would be without the four.
        Check.due("14: one rather than four", x.cause(0), 1 << 5);
        x.change(5, 0, 3);
        // 700: without 300, 400 is left: just HEARD.
        Check.due("14: just HEARD without it", x.cause(0), 1 << 5);
        x.change(5, 0, 2);
        // 600: without 200, 400 is left.
        Check.due("14: one is enough yet", x.cause(0), 1 << 5);
        x.change(5, 0, 1);
        // 500: without any one 400 is left.
        Check.due("14: the least of five alike", x.cause(0), 1 << 1);
    }

    private static void causeTheLeastAsBits() {
        AirParted x = new AirParted();
        x.set(2, 100);
        for (int s : new int[] {3, 2}) {
            x.sender(0, 0, s, 0, 1, 0);
        }
        x.sender(0, 0, 10, 0, 200, 0);
        for (int s : new int[] {2, 3}) {
            x.sender(0, 0, s, 0, 1, 0);
        }
        // 300, 200, 200, 300 are 1000: 600 or more must go; two do: 300 and 300 alone. As bits 1 and 16.
        Check.due("14: two, one behind it", x.cause(2), 17);
        x.change(1, 0, 3);
        Check.due("14: 300, 300, 200, 300: 700 must go, three do", x.cause(2), 1 + 2 + 8);
        x.change(3, 0, 1);
        // 300, 300, 100, 300: 600 must go: the least two of three alike.
        Check.due("14: the least two", x.cause(2), 1 + 2);
        x.change(0, 0, 2);
        // 200, 300, 100, 300: 500 must go: 200 and 300 (1 and 2), as bits 3, ahead of 18 and 17.
        Check.due("14: the least of two and two", x.cause(2), 1 + 2);
        x.change(1, 2, 1);
        // 200, 100, 300 are left: 200 must go.
        Check.due("14: one in another SLOT is never named", x.cause(2), 1);
    }

    private static void causeOfTenOthers() {
        AirParted x = crowd(11, 1);
        Check.due("14: all ten", x.cause(0), 2047 - 1);
        Check.due("14: all ten of the last", x.cause(10), 1023);
        Check.due("14: all ten of one between", x.cause(5), 2047 - 32);
        x.change(0, 0, 11);
        // 1100 to 10 and 1000: HEARD.
        Check.due("14: HEARD beside ten", x.cause(0), 0);
        x.set(2, 10000);
        Check.due("14: not even alone, beside ten", x.cause(3), NONE);
    }

    private static void causeOfElevenOthers() {
        AirParted x = crowd(12, 1);
        Check.due("14: FULL", x.cause(0), FULL);
        x.on(11, false);
        Check.due("14: one of them OFF", x.cause(0), 2046);
        x.on(11, true);
        Check.due("14: ON again", x.cause(0), FULL);
        x.change(11, 2, 11);
        Check.due("14: one of them in another SLOT", x.cause(0), 2046);
        Check.due("14: that one alone is HEARD", x.cause(11), 0);
        x.change(11, 2, 0);
        x.change(0, 0, 1000000);
        Check.due("12: HEARD beside eleven", x.heard(0), 1);
        Check.due("14: FULL all the same", x.cause(0), FULL);
        x.change(0, 0, 1);
        x.set(2, 10000);
        Check.due("14: FULL ahead of NONE", x.cause(0), FULL);
        AirParted y = crowd(11, 1);
        y.sender(2, 0, 1, 0, 1, 0);
        Check.due("14: a HOPPER that is there", y.cause(0), FULL);
        y.pass(1);
        Check.due("14: a HOPPER that is gone", y.cause(0), 2046);
        y.pass(11);
        Check.due("14: a HOPPER that is back", y.cause(0), FULL);
    }
}
