import java.util.function.Supplier;

/** Part 3 of the terms and promises 15 to 20, edge by edge: sets that may share, partings, worth, proofs. */
public final class EdgesPartingTest {
    private static final int NONE = AirParted.NONE, BAD = AirParted.BAD, NOT = AirParted.NOT;

    /** A call of part 3 with its set left open. */
    private static final Refusal.Open[] CALLS = {(x, set) -> x.share(set), (x, set) -> x.fewest(set), (x, set) -> x.part(set, lowest(set)),
        (x, set) -> x.best(set, 1), (x, set) -> x.proof(set, 1), (x, set) -> x.assign(set)};
    private static final String[] NAMES = {"15: share", "16: fewest", "17: part", "18: best", "19: proof", "20: assign"};

    public static void main(String[] args) {
        setsAreBounded();
        setsOfAllNumbers();
        slotsAreBounded();
        partIsRefused();
        assignIsRefused();
        refusedWhereNoneMayBeAlone();
        shareAtTheEdge();
        shareOfOne();
        shareOfEight();
        onOrNotAndOthersDoNotCount();
        slotsAsTheyAreDoNotCount();
        whereTheyStandAtTick();
        guardedOnesAtTheWorst();
        fewestFromOneToEight();
        fewestNone();
        theLeastSlotThatCanBe();
        soThatTheRestCanBeParted();
        bestTheMostWorth();
        bestOfLikeOnes();
        bestOfNone();
        bestInEachNumberOfSlots();
        proofTheFewest();
        proofTheLeastAsBits();
        proofOfOne();
        proofThatItCan();
        assignGivesSlots();
        assignOfOffOnesAndHoppers();
        Check.end();
    }

    private static int lowest(int set) {
        return Integer.numberOfTrailingZeros(set);
    }

    /** So many on one cell: each is HEARD alone, none beside another. */
    private static AirParted alike(int many) {
        AirParted x = new AirParted();
        for (int i = 0; i < many; i++) {
            x.sender(0, 0, 1, 0, 100, 0);
        }
        return x;
    }

    // ---- all of them

    private static void setsAreBounded() {
        Supplier<AirParted> ten = () -> alike(10);
        for (int k = 0; k < CALLS.length; k++) {
            Refusal.Open call = CALLS[k];
            Refusal.bad(NAMES[k] + " of none", ten, x -> call.on(x, 0));
            Refusal.bad(NAMES[k] + " of nine", ten, x -> call.on(x, 511));
            Refusal.bad(NAMES[k] + " of ten", ten, x -> call.on(x, 1023));
            Refusal.bad(NAMES[k] + " of one that is not there", ten, x -> call.on(x, 1 << 10));
            Refusal.bad(NAMES[k] + " of one and one that is not there", ten, x -> call.on(x, 1 | 1 << 10));
            Refusal.bad(NAMES[k] + " of bit 20", States::full, x -> call.on(x, 1 << 20));
            Refusal.bad(NAMES[k] + " of bit 31", States::full, x -> call.on(x, Integer.MIN_VALUE));
            Refusal.bad(NAMES[k] + " of one and bit 31", States::full, x -> call.on(x, Integer.MIN_VALUE | 1));
            Refusal.bad(NAMES[k] + " of all bits", States::full, x -> call.on(x, -1));
            Refusal.bad(NAMES[k] + " of the greatest int", States::full, x -> call.on(x, Integer.MAX_VALUE));
            Refusal.bad(NAMES[k] + " of no SENDERS", States::fresh, x -> call.on(x, 1));
            Refusal.bad(NAMES[k] + " of none of no SENDERS", States::fresh, x -> call.on(x, 0));
            Refusal.taken(NAMES[k] + " of one", ten, x -> call.on(x, 1), BAD);
            Refusal.taken(NAMES[k] + " of the last", ten, x -> call.on(x, 1 << 9), BAD);
            Refusal.taken(NAMES[k] + " of eight", ten, x -> call.on(x, 255), BAD);
            Refusal.taken(NAMES[k] + " of the last eight", ten, x -> call.on(x, 1020), BAD);
            Refusal.taken(NAMES[k] + " of the twentieth", States::full, x -> call.on(x, 1 << 19), BAD);
            Refusal.taken(NAMES[k] + " of eight of twenty", States::full, x -> call.on(x, 0xFF000), BAD);
        }
    }

    private static void setsOfAllNumbers() {
        AirParted x = alike(20);
        Check.due("16: the last eight of twenty", x.fewest(0xFF000), 8);
        Check.due("17: the twentieth", x.part(0xFF000, 19), 7);
        Check.due("18: the twentieth", x.best(1 << 19 | 1, 1), 1);
        Check.due("18: the twentieth too", x.best(1 << 19 | 1, 2), 1 << 19 | 1);
        Check.due("19: the twentieth", x.proof(1 << 19 | 1, 1), 1 << 19 | 1);
        Check.due("20: the last eight of twenty", x.assign(0xFF000), 8);
        Check.due("20: the twentieth", x.about(19, 10), 7);
        Check.due("20: the twelfth is not of them", x.about(11, 10), 0);
    }

    private static void slotsAreBounded() {
        Refusal.bounds("18: SLOTS", States::some, (x, v) -> x.best(6, v), 1, 8);
        Refusal.bounds("19: SLOTS", States::some, (x, v) -> x.proof(6, v), 1, 8);
        Refusal.bounds("18: SLOTS for one", States::some, (x, v) -> x.best(1, v), 1, 8);
        Refusal.bounds("19: SLOTS for one", States::some, (x, v) -> x.proof(1, v), 1, 8);
    }

    private static void partIsRefused() {
        Refusal.bad("17: one that is not in the set", States::some, x -> x.part(6, 0));
        Refusal.bad("17: one behind the set", States::some, x -> x.part(6, 3));
        Refusal.bad("17: SENDER -1", States::some, x -> x.part(6, -1));
        Refusal.bad("17: one that is not there", States::some, x -> x.part(6, States.SENDERS));
        Refusal.bad("17: 33 is not 1", States::some, x -> x.part(6, 33));
        Refusal.bad("17: -31 is not 1", States::some, x -> x.part(6, -31));
        Refusal.bad("17: the greatest int", States::some, x -> x.part(6, Integer.MAX_VALUE));
        Refusal.bad("17: the least int", States::some, x -> x.part(6, Integer.MIN_VALUE));
        Refusal.bad("17: a wrong set, a SENDER that is there", States::some, x -> x.part(0, 0));
        Refusal.due("17: NOT", () -> withDeaf(), x -> x.part(3, 0), NOT);
        Refusal.bad("17: BAD ahead of NOT", () -> withDeaf(), x -> x.part(2, 0));
    }

    private static void assignIsRefused() {
        Refusal.due("20: NOT", () -> withDeaf(), x -> x.assign(3), NOT);
        Refusal.due("20: NOT of one", () -> withDeaf(), x -> x.assign(2), NOT);
        Refusal.bad("20: BAD ahead of NOT", () -> withDeaf(), x -> x.assign(2 | 4));
    }

    /** Number 1 is not HEARD even alone. */
    private static AirParted withDeaf() {
        AirParted x = new AirParted();
        x.sender(0, 0, 1, 0, 100, 0);
        x.sender(0, 0, 1, 0, 10000, 99);
        x.change(0, 2, 5);
        x.change(1, 2, 6);
        return x;
    }

    private static void refusedWhereNoneMayBeAlone() {
        AirParted x = withDeaf();
        Check.due("16: NONE", x.fewest(3), NONE);
        Check.due("16: NONE of one", x.fewest(2), NONE);
        Check.due("17: of the other alone", x.part(1, 0), 0);
        Check.due("20: of the other alone", x.assign(1), 1);
    }

    // ---- promise 15

    private static void shareAtTheEdge() {
        // 1000 on its GOAL; of the other, three off, 100: 100000 to MUCH times (10 and 100).
        AirParted x = new AirParted();
        x.sender(0, 0, 10, 0, 909, 0);
        x.sender(0, 3, 10, 0, 909, 3);
        Check.due("15: 100000 to 99990", x.share(3), 1);
        AirParted y = new AirParted();
        y.sender(0, 0, 10, 0, 910, 0);
        y.sender(0, 3, 10, 0, 910, 3);
        Check.due("15: 100000 to 100100", y.share(3), 0);
        AirParted z = new AirParted();
        z.set(2, 25);
        z.sender(0, 0, 10, 0, 800, 0);
        z.sender(0, 3, 10, 0, 800, 3);
        Check.due("15: 100000 to 100000", z.share(3), 1);
        z.sender(0, 3, 10, 0, 801, 3);
        Check.due("15: one of two is not HEARD", z.share(5), 0);
        Check.due("15: the other one of two", z.share(1) + z.share(4), 2);
    }

    private static void shareOfOne() {
        AirParted x = new AirParted();
        x.sender(0, 0, 1, 0, 1000, 0);
        Check.due("15: one alone, just HEARD", x.share(1), 1);
        x.set(2, 11);
        Check.due("15: one alone, not HEARD", x.share(1), 0);
    }

    private static void shareOfEight() {
        AirParted x = new AirParted();
        // 100 to 14 times (10 and 7 times 100): 10000 to 9940.
        for (int i = 0; i < 9; i++) {
            x.sender(0, 0, 1, 0, 14, 0);
        }
        Check.due("15: eight in one SLOT", x.share(255), 1);
        Check.due("16: eight in one SLOT", x.fewest(255), 1);
        x.set(2, 15);
        Check.due("15: 10000 to 10010", x.share(255), 0);
        Check.due("15: seven of them", x.share(127), 1);
        Check.due("16: then two SLOTS", x.fewest(255), 2);
        Check.due("17: seven and one", x.part(255, 6), 0);
        Check.due("17: seven and one, the last", x.part(255, 7), 1);
    }

    private static void onOrNotAndOthersDoNotCount() {
        AirParted x = alike(3);
        x.on(0, false);
        x.on(1, false);
        Check.due("15: OFF ones count", x.share(3), 0);
        Check.due("15: one beside the set does not", x.share(1), 1);
        Check.due("16: OFF ones count", x.fewest(7), 3);
        Check.due("17: OFF ones have a SLOT", x.part(7, 1), 1);
        Check.due("18: OFF ones count", x.best(7, 2), 3);
        Check.due("19: OFF ones count", x.proof(7, 2), 7);
    }

    private static void slotsAsTheyAreDoNotCount() {
        AirParted x = alike(2);
        x.change(1, 2, 11);
        Check.due("12: in two SLOTS both are HEARD", x.heard(0) + x.heard(1), 2);
        Check.due("15: in one SLOT they would not be", x.share(3), 0);
        AirParted y = new AirParted();
        y.sender(2, 0, 1, 0, 100, 0);
        y.sender(5, 0, 1, 0, 100, 0);
        y.change(0, 3, 7);
        y.pass(1);
        Check.due("15: HOPPERS apart at TICK", y.share(3), 0);
        Check.due("16: HOPPERS apart at TICK", y.fewest(3), 2);
    }

    private static void whereTheyStandAtTick() {
        AirParted x = new AirParted();
        x.sender(0, 0, 1, 0, 100, 0);
        x.sender(1, 99, 1, 0, 1, 0);
        x.change(1, 4, 3);
        x.sheet(3, 2, 2);
        x.put(3, 2, 1, 99);
        Check.due("15: a MOVER that has come", x.share(3), 0);
        x.pass(1);
        Check.due("15: a MOVER that is far, HEARD no more", x.share(2), 0);
        Check.due("16: a MOVER that is far", x.fewest(3), NONE);
        x.sheet(3, 2, 2);
        Check.due("15: a MOVER that is near again", x.share(2), 1);
    }

    private static void guardedOnesAtTheWorst() {
        AirParted x = new AirParted();
        x.sender(4, 0, 10000, 0, 4921, 2);
        Check.due("15: a GUARDED one alone, 49200 to 49210", x.share(1), 0);
        AirParted y = new AirParted();
        y.sender(4, 0, 10000, 0, 4920, 2);
        Check.due("15: a GUARDED one alone, 49200 to 49200", y.share(1), 1);
        AirParted z = new AirParted();
        // Of the GUARDED one 200000 in MOOD 0 at the GOAL of the other, 492 in MOOD 1.
        z.sender(4, 0, 10000, 0, 1, 0);
        z.sender(0, 2, 1000, 0, 100, 2);
        Check.due("15: a GUARDED one is in the way of others in MOOD 0", z.share(3), 0);
        Check.due("16: so two SLOTS", z.fewest(3), 2);
    }

    // ---- promises 16 and 17

    private static void fewestFromOneToEight() {
        AirParted x = alike(8);
        for (int n = 1; n <= 8; n++) {
            Check.due("16: " + n + " that share with none", x.fewest((1 << n) - 1), n);
            Check.due("17: the last of " + n, x.part((1 << n) - 1, n - 1), n - 1);
            Check.due("17: the first of " + n, x.part((1 << n) - 1, 0), 0);
            Check.due("17: the lowest of a set is in SLOT 0", x.part(255 & ~((1 << n - 1) - 1), n - 1), 0);
        }
    }

    private static void fewestNone() {
        AirParted x = alike(7);
        x.sender(0, 0, 1, 0, 1001, 0);
        Check.due("16: NONE, where one of eight may not even be alone", x.fewest(255), NONE);
        Check.due("16: the seven others", x.fewest(127), 7);
        Check.due("17: NOT of any of them", x.part(255, 0), NOT);
    }

    /** One after another on a row; those four or less apart may not share. */
    private static AirParted row(int... cells) {
        AirParted x = new AirParted();
        x.land(20, 1);
        for (int c : cells) {
            // 2000 on its GOAL, MUCH 16; four off 117, five off 76, eight off 30, twelve off 13.
            x.sender(0, c, 20, 0, 1600, c);
        }
        return x;
    }

    private static void slots(String what, AirParted x, int set, int... due) {
        int k = 0;
        for (int i = 0; i < 20; i++) {
            if ((set >> i & 1) != 0) {
                Check.due(what + ", of " + i, x.part(set, i), due[k]);
                k++;
            }
        }
    }

    private static void theLeastSlotThatCanBe() {
        slots("17: two that may share", row(0, 8), 3, 0, 0);
        slots("17: two that may not", row(0, 4), 3, 0, 1);
        slots("17: back to SLOT 0", row(0, 4, 8), 7, 0, 1, 0);
        slots("17: a third SLOT", row(0, 2, 4), 7, 0, 1, 2);
        slots("17: each as low as can be", row(0, 2, 4, 12, 14, 16), 63, 0, 1, 2, 0, 1, 2);
        slots("17: by numbers, not by cells", row(16, 14, 12, 4, 2, 0), 63, 0, 1, 2, 0, 1, 2);
        slots("17: of a set with gaps", row(0, 0, 4, 0, 8), 1 + 4 + 16, 0, 1, 0);
    }

    private static void soThatTheRestCanBeParted() {
        // 12 may be with 0 and would be first; but then 8 and 4 would need a SLOT each.
        AirParted x = row(0, 12, 8, 4);
        Check.due("15: 0 and 12", x.share(3), 1);
        Check.due("16: two", x.fewest(15), 2);
        slots("17: 12 gives way", x, 15, 0, 1, 0, 1);
        slots("17: without the last it does not", x, 7, 0, 0, 1);
    }

    // ---- promise 18

    private static AirParted worth(AirParted x, int... worths) {
        for (int i = 0; i < worths.length; i++) {
            x.change(i, 1, worths[i]);
        }
        return x;
    }

    private static void bestTheMostWorth() {
        Check.due("18: the one worth most", worth(alike(3), 5, 7, 6).best(7, 1), 2);
        Check.due("18: the two worth most", worth(alike(3), 5, 7, 6).best(7, 2), 6);
        Check.due("18: one worth more than two that share", worth(row(0, 8, 4), 3, 3, 7).best(7, 1), 4);
        Check.due("18: two worth more than one", worth(row(0, 8, 4), 3, 4, 6).best(7, 1), 3);
        Check.due("18: the greatest WORTHS", worth(alike(8), 1000, 1000, 1000, 1000, 1000, 1000, 1000, 1000).best(255, 8), 255);
        Check.due("18: of the set alone", worth(alike(3), 5, 1000, 6).best(5, 1), 4);
    }

    private static void bestOfLikeOnes() {
        Check.due("18: one rather than two of like WORTH", worth(row(0, 8, 4), 3, 4, 7).best(7, 1), 4);
        Check.due("18: without those worth nothing", worth(row(0, 8, 4), 3, 0, 2).best(7, 1), 1);
        Check.due("18: the least as bits", worth(alike(4), 5, 5, 5, 5).best(15, 2), 3);
        Check.due("18: the least as bits behind one worth less", worth(alike(4), 4, 5, 5, 5).best(15, 2), 6);
        Check.due("18: the least as bits of two pairs", worth(row(0, 4, 8, 12), 1, 1, 1, 1).best(15, 1), 5);
    }

    private static void bestOfNone() {
        Check.due("18: none is worth anything", worth(alike(3), 0, 0, 0).best(7, 3), 0);
        Check.due("18: none may even be alone", withDeaf().best(2, 8), 0);
        Check.due("18: but for the one that may not be alone", withDeaf().best(3, 8), 1);
    }

    private static void bestInEachNumberOfSlots() {
        AirParted x = alike(8);
        for (int n = 1; n <= 8; n++) {
            Check.due("18: in " + n, x.best(255, n), (1 << n) - 1);
            Check.due("18: one in " + n, x.best(16, n), 16);
        }
    }

    // ---- promise 19

    private static void proofTheFewest() {
        // 0, 2, 4 need three SLOTS; 8 and 16 share with some of them.
        AirParted x = row(8, 0, 16, 2, 4);
        Check.due("19: two that may not share", x.proof(31, 1), 2 + 8);
        Check.due("19: three that need three", x.proof(31, 2), 2 + 8 + 16);
        Check.due("19: three SLOTS do", x.proof(31, 3), 0);
    }

    private static void proofTheLeastAsBits() {
        AirParted x = alike(8);
        for (int n = 1; n < 8; n++) {
            Check.due("19: the least " + (n + 1), x.proof(255, n), (1 << n + 1) - 1);
        }
        Check.due("19: eight do", x.proof(255, 8), 0);
        Check.due("19: the least two of a set with gaps", x.proof(0xD4, 1), 0x14);
        // 12 and 16, 8 and 12, 4 and 8: the least as bits is 3.
        Check.due("19: the least of some pairs", row(12, 16, 8, 4).proof(15, 1), 3);
        Check.due("19: of other pairs", row(0, 16, 8, 4).proof(15, 1), 1 + 8);
    }

    private static void proofOfOne() {
        AirParted x = withDeaf();
        for (int n = 1; n <= 8; n++) {
            Check.due("19: one that may not even be alone, in " + n, x.proof(3, n), 2);
            Check.due("19: the other may, in " + n, x.proof(1, n), 0);
            Check.due("19: a set of it alone, in " + n, x.proof(2, n), 2);
        }
    }

    private static void proofThatItCan() {
        AirParted x = row(0, 8, 16);
        for (int n = 1; n <= 8; n++) {
            Check.due("19: three that share, in " + n, x.proof(7, n), 0);
        }
    }

    // ---- promise 20

    private static void assignGivesSlots() {
        AirParted x = row(0, 12, 8, 4, 0);
        for (int i = 0; i < 5; i++) {
            x.change(i, 2, 9);
        }
        Check.due("20: two SLOTS", x.assign(15), 2);
        int[] due = {0, 1, 0, 1, 9};
        for (int i = 0; i < 5; i++) {
            Check.due("20: own SLOT of " + i, x.about(i, 10), due[i]);
        }
        Check.due("20: HEARD then", x.heard(0) + x.heard(1) + x.heard(2) + x.heard(3), 4);
        AirParted y = alike(8);
        Check.due("20: eight SLOTS", y.assign(255), 8);
        for (int i = 0; i < 8; i++) {
            Check.due("20: own SLOT of eight", y.about(i, 10), i);
        }
        Check.due("20: one SLOT", y.assign(128), 1);
        Check.due("20: SLOT 0", y.about(7, 10), 0);
    }

    private static void assignOfOffOnesAndHoppers() {
        AirParted x = new AirParted();
        x.sender(0, 0, 1, 0, 100, 0);
        x.sender(2, 0, 1, 0, 100, 0);
        x.on(0, false);
        x.on(1, false);
        x.pass(3);
        Check.due("20: OFF ones", x.assign(3), 2);
        Check.due("20: its own SLOT", x.about(1, 10), 1);
        Check.due("20: a HOPPER goes on from it", x.about(1, 7), 4);
        Check.due("20: they stay OFF", x.count(1), 0);
        Check.due("20: STEP stays", x.change(1, 3, 0), 1);
    }
}
