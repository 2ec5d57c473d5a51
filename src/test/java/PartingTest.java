/** Promises 15 to 20: share, fewest, part, best, proof, assign. */
public final class PartingTest {
    public static void main(String[] args) {
        wrongSets();
        row();
        lone();
        eight();
        lookingAhead();
        fewestOfLikeWorth();
        offAndOthers();
        Check.end();
    }

    /** Senders in a row, each on its goal, so that those n or less apart may not share. */
    private static AirParted row(int... cells) {
        AirParted x = new AirParted();
        x.land(20, 1);
        for (int c : cells) {
            // 2000 on its goal; 2000 by 1 and d d of another d off; MUCH is 10 of it.
            x.sender(0, c, 20, 0, 1000, c);
        }
        return x;
    }

    private static void wrongSets() {
        AirParted x = row(0, 1, 2, 3, 4, 5, 6, 7, 8);
        int[] wrong = {0, 512, 513, -1, Integer.MIN_VALUE, 511, 1 << 9, 1 << 31};
        for (int set : wrong) {
            Check.due("15: share(" + set + ")", x.share(set), AirParted.BAD);
            Check.due("16: fewest(" + set + ")", x.fewest(set), AirParted.BAD);
            Check.due("17: part(" + set + ", 0)", x.part(set, 0), AirParted.BAD);
            Check.due("18: best(" + set + ", 1)", x.best(set, 1), AirParted.BAD);
            Check.due("19: proof(" + set + ", 1)", x.proof(set, 1), AirParted.BAD);
            Check.due("20: assign(" + set + ")", x.assign(set), AirParted.BAD);
        }
        for (int n : new int[] {0, 9, -1, Integer.MAX_VALUE}) {
            Check.due("18: best(1, " + n + ")", x.best(1, n), AirParted.BAD);
            Check.due("19: proof(1, " + n + ")", x.proof(1, n), AirParted.BAD);
        }
        for (int s : new int[] {1, 9, 32, -1, Integer.MIN_VALUE}) {
            Check.due("17: part(1, " + s + ")", x.part(1, s), AirParted.BAD);
        }
        Check.due("15: without senders", new AirParted().share(1), AirParted.BAD);
    }

    private static void row() {
        // NOISE 10; 20 others' 2000 by 1 and dd: at 3 off 200 (too much), at 4 off 117 (2000 >= 10 * 127: heard).
        AirParted x = row(0, 4, 2, 6, 1);
        Check.due("15: one alone", x.share(1), 1);
        Check.due("15: 0 and 4", x.share(3), 1);
        Check.due("15: 0 and 2", x.share(5), 0);
        Check.due("15: 2 and 6", x.share(12), 1);
        Check.due("15: 4 and 6", x.share(10), 0);
        // 0 4 | 2 6
        Check.due("16: two pairs", x.fewest(15), 2);
        int[] due = {0, 0, 1, 1};
        for (int i = 0; i < 4; i++) {
            Check.due("17: slot of " + i, x.part(15, i), due[i]);
        }
        // On 0, 4, 2, 6, 1: 1 may be with 6 alone (5 off); so 0 4 | 2 | 6 1.
        Check.due("16: with one more", x.fewest(31), 3);
        Check.due("17: the fourth goes where it can", x.part(31, 3), 1);
        Check.due("17: the fifth in a new one", x.part(31, 4), 2);
        Check.due("19: the proof that two do not do", x.proof(31, 2), 1 + 4 + 16);
        Check.due("19: the proof that one does not do", x.proof(31, 1), 5);
        Check.due("19: three do", x.proof(31, 3), 0);
        Check.due("18: in one, all worth alike", x.best(31, 1), 3);
        Check.due("18: in two", x.best(31, 2), 15);
        Check.due("18: in three", x.best(31, 3), 31);
        x.change(4, 1, 3);
        Check.due("18: worth more than two", x.best(31, 1), 8 + 16);
        x.change(3, 1, 0);
        Check.due("18: what is worth nothing is left", x.best(31, 1), 16);
        Check.due("18: in eight, but without it", x.best(31, 8), 31 - 8);
        for (int i = 0; i < 5; i++) {
            x.change(i, 1, 0);
        }
        Check.due("18: nothing is worth anything", x.best(31, 2), 0);
        // On 4, 2, 6, 1: 4 alone, 2 with 6, so 1 alone.
        Check.due("20: slots are had", x.assign(30), 3);
        int[] had = {0, 0, 1, 1, 2};
        for (int i = 0; i < 5; i++) {
            Check.due("20: own slot of " + i, x.about(i, 10), had[i]);
        }
    }

    private static void lone() {
        AirParted x = row(0, 10);
        x.sender(0, 0, 1, 0, 10000, 19);
        Check.due("15: not even alone", x.share(4), 0);
        Check.due("16: not even alone", x.fewest(7), AirParted.NONE);
        Check.due("17: not even alone", x.part(7, 0), AirParted.NOT);
        Check.due("17: not even alone, one that is not in it", x.part(6, 0), AirParted.BAD);
        Check.due("18: the others", x.best(7, 1), 3);
        Check.due("18: none", x.best(4, 8), 0);
        Check.due("19: it alone is the proof", x.proof(7, 8), 4);
        x.change(0, 2, 5);
        Check.due("20: not even alone", x.assign(7), AirParted.NOT);
        Check.due("20: nothing is changed", x.about(0, 10), 5);
    }

    private static void eight() {
        AirParted x = row(0, 0, 0, 0, 0, 0, 0, 0);
        Check.due("16: eight in one place", x.fewest(255), 8);
        for (int i = 0; i < 8; i++) {
            Check.due("17: slot of " + i, x.part(255, i), i);
        }
        Check.due("18: of like ones the least as bits", x.best(255, 3), 7);
        Check.due("19: of like ones the least as bits", x.proof(255, 3), 15);
        Check.due("19: eight do", x.proof(255, 8), 0);
        Check.due("20: eight", x.assign(255), 8);
        Check.due("20: the last", x.about(7, 7), 7);
    }

    private static void lookingAhead() {
        // On 0, 8, 4, 12, MUCH 16: 4 off is 117 and 10, too much; so 0 8, 0 12, 4 12 may share; 0 4, 8 4, 8 12 may not.
        AirParted x = new AirParted();
        x.land(20, 1);
        for (int c : new int[] {0, 8, 4, 12}) {
            x.sender(0, c, 20, 0, 1600, c);
        }
        Check.due("15: 0 8", x.share(3), 1);
        Check.due("15: 0 4", x.share(5), 0);
        Check.due("15: 8 4", x.share(6), 0);
        Check.due("15: 0 12", x.share(9), 1);
        Check.due("15: 8 12", x.share(10), 0);
        Check.due("15: 4 12", x.share(12), 1);
        Check.due("16: two", x.fewest(15), 2);
        Check.due("17: 8 is with 0", x.part(15, 1), 0);
        Check.due("17: 4 is not", x.part(15, 2), 1);
        Check.due("17: 12 is with 4", x.part(15, 3), 1);
        AirParted y = new AirParted();
        y.land(20, 1);
        // 0, 12, 8, 4: 12 may be with 0, but 8 and 4 would then need two more.
        for (int c : new int[] {0, 12, 8, 4}) {
            y.sender(0, c, 20, 0, 1600, c);
        }
        Check.due("15: 0 12", y.share(3), 1);
        Check.due("16: two", y.fewest(15), 2);
        int[] due = {0, 1, 0, 1};
        for (int i = 0; i < 4; i++) {
            Check.due("17: so that the rest can be parted yet, " + i, y.part(15, i), due[i]);
        }
    }

    private static void fewestOfLikeWorth() {
        AirParted x = row(0, 4, 2);
        x.change(2, 1, 2);
        Check.due("18: of like worth the fewest", x.best(7, 1), 4);
        x.change(0, 1, 3);
        x.change(1, 1, 1);
        x.change(2, 1, 3);
        Check.due("18: the most ahead of the fewest", x.best(7, 1), 3);
    }

    private static void offAndOthers() {
        AirParted x = row(0, 10, 0);
        x.on(0, false);
        x.on(1, false);
        Check.due("15: off ones count", x.share(5), 0);
        Check.due("15: ones beside the set do not", x.share(3), 1);
        x.change(2, 2, 7);
        Check.due("15: slots as they are do not", x.share(5), 0);
    }
}
