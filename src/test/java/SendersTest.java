/** Promises 7 to 14: sender, about, change, on, got, heard, drowns, cause. */
public final class SendersTest {
    public static void main(String[] args) {
        sender();
        about();
        change();
        movers();
        hoppers();
        on();
        got();
        heardAtTheEdge();
        drowns();
        cause();
        causeOfMany();
        Check.end();
    }

    private static void sender() {
        AirParted x = new AirParted();
        int[][] bad = {{-1, 0, 1, 0, 1, 0}, {6, 0, 1, 0, 1, 0}, {0, -1, 1, 0, 1, 0}, {0, 100, 1, 0, 1, 0}, {0, 0, 0, 0, 1, 0},
            {0, 0, 1000001, 0, 1, 0}, {0, 0, 1, -1, 1, 0}, {0, 0, 1, 21, 1, 0}, {0, 0, 1, 0, 0, 0}, {0, 0, 1, 0, 10001, 0},
            {0, 0, 1, 0, 1, -1}, {0, 0, 1, 0, 1, 100}};
        for (int[] b : bad) {
            Check.due("7: wrong sender", x.sender(b[0], b[1], b[2], b[3], b[4], b[5]), AirParted.BAD);
        }
        for (int i = 0; i < 20; i++) {
            Check.due("7: sender " + i, x.sender(i % 6, 99, 1000000, 20, 10000, 99), i);
        }
        Check.due("7: one more", x.sender(0, 0, 1, 0, 1, 0), AirParted.FULL);
        Check.due("7: a wrong one more", x.sender(6, 0, 1, 0, 1, 0), AirParted.BAD);
        Check.due("7: how many", x.count(0), 20);
    }

    private static void about() {
        AirParted x = new AirParted();
        x.sender(4, 12, 34, 5, 67, 89);
        int[] due = {4, 12, 34, 5, 67, 89, 1, 0, 1, 12, 0};
        for (int what = 0; what < due.length; what++) {
            Check.due("8: about " + what, x.about(0, what), due[what]);
        }
        Check.due("8: what 11", x.about(0, 11), Integer.MIN_VALUE);
        Check.due("8: what -1", x.about(0, -1), Integer.MIN_VALUE);
        Check.due("8: sender 1", x.about(1, 0), Integer.MIN_VALUE);
        Check.due("8: sender -1", x.about(-1, 0), Integer.MIN_VALUE);
    }

    private static void change() {
        AirParted x = new AirParted();
        for (int kind = 0; kind < 6; kind++) {
            x.sender(kind, 0, 10, 0, 1, 0);
            boolean hops = kind == 2 || kind == 5;
            Check.due("9: STEP of " + kind, x.change(kind, 3, 11), hops ? 1 : AirParted.BAD);
            Check.due("9: STEP of " + kind + " again", x.change(kind, 3, 0), hops ? 11 : AirParted.BAD);
            Check.due("9: ROW of " + kind, x.change(kind, 4, 5), kind == 1 ? AirParted.NONE : AirParted.BAD);
        }
        int[] was = {10, 1, 0};
        int[] least = {1, 0, 0};
        int[] greatest = {1000000, 1000, 11};
        for (int what = 0; what < 3; what++) {
            Check.due("9: below " + what, x.change(0, what, least[what] - 1), AirParted.BAD);
            Check.due("9: above " + what, x.change(0, what, greatest[what] + 1), AirParted.BAD);
            Check.due("9: least " + what, x.change(0, what, least[what]), was[what]);
            Check.due("9: greatest " + what, x.change(0, what, greatest[what]), least[what]);
        }
        Check.due("9: STRENGTH is told", x.about(0, 2), 1000000);
        Check.due("9: WORTH is told", x.about(0, 6), 1000);
        Check.due("9: SLOT is told", x.about(0, 7), 11);
        Check.due("9: STEP 12", x.change(2, 3, 12), AirParted.BAD);
        Check.due("9: STEP -1", x.change(2, 3, -1), AirParted.BAD);
        Check.due("9: ROW 6", x.change(1, 4, 6), AirParted.BAD);
        Check.due("9: ROW -2", x.change(1, 4, -2), AirParted.BAD);
        Check.due("9: ROW none", x.change(1, 4, AirParted.NONE), 5);
        Check.due("9: ROW again", x.change(1, 4, 0), AirParted.NONE);
        Check.due("9: what 5", x.change(1, 5, 1), AirParted.BAD);
        Check.due("9: what -1", x.change(1, -1, 1), AirParted.BAD);
        Check.due("9: sender 6", x.change(6, 0, 1), AirParted.BAD);
        Check.due("9: sender -1", x.change(-1, 0, 1), AirParted.BAD);
    }

    private static void movers() {
        AirParted x = new AirParted();
        x.sender(1, 7, 100, 0, 1, 0);
        Check.due("8: a mover without a row", x.about(0, 1), 7);
        x.change(0, 4, 2);
        Check.due("8: a mover with a lost row", x.about(0, 1), 7);
        x.sheet(2, 3, 5);
        long[] row = {3, 99, 100, -1, 1L << 32};
        int[] due = {3, 99, 7, 7, 7, 7};
        for (int t = 0; t < 5; t++) {
            x.put(2, 3, t, row[t]);
        }
        for (int t = 0; t < 6; t++) {
            Check.due("8: a mover at tick " + t, x.about(0, 1), due[t]);
            Check.due("8: its own cell at tick " + t, x.about(0, 9), 7);
            Check.due("11: what is got where it stands at tick " + t, x.got(0, due[t]), 10000);
            x.pass(1);
        }
        AirParted y = new AirParted();
        y.sender(0, 7, 100, 0, 1, 0);
        y.sheet(2, 3, 5);
        Check.due("8: another kind stays", y.about(0, 1), 7);
    }

    private static void hoppers() {
        AirParted x = new AirParted();
        for (int kind = 0; kind < 6; kind++) {
            x.sender(kind, 0, 1, 0, 1, 0);
            x.change(kind, 2, 10);
            x.change(kind, 3, 5);
        }
        for (int t = 0; t < 13; t++) {
            for (int kind = 0; kind < 6; kind++) {
                int due = kind == 2 || kind == 5 ? (10 + 5 * t) % 12 : 10;
                Check.due("8: slot of kind " + kind + " at tick " + t, x.about(kind, 7), due);
                Check.due("8: own slot of kind " + kind + " at tick " + t, x.about(kind, 10), 10);
            }
            x.pass(1);
        }
    }

    private static void on() {
        AirParted x = new AirParted();
        x.sender(0, 0, 1, 0, 1, 0);
        Check.due("10: on already", x.on(0, true), 0);
        Check.due("10: off", x.on(0, false), 1);
        Check.due("10: off already", x.on(0, false), 0);
        Check.due("10: told", x.about(0, 8), 0);
        Check.due("10: counted", x.count(1), 0);
        Check.due("10: on", x.on(0, true), 1);
        Check.due("10: sender 1", x.on(1, true), AirParted.BAD);
        Check.due("10: sender -1", x.on(-1, false), AirParted.BAD);
    }

    private static void got() {
        AirParted x = new AirParted();
        x.sender(0, 0, 7, 0, 1, 0);
        x.sender(4, 0, 1000000, 20, 1, 0);
        Check.due("11: on its cell", x.got(0, 0), 700);
        Check.due("11: cut", x.got(0, 11), 233);
        Check.due("11: far, nothing", x.got(0, 99), 4);
        // One cell between, of unknown wood 9 (45) and hill 99: half way from 20 to 0 is 10, so 89 above.
        Check.due("11: a guarded one at the worst", x.got(1, 2), 100000000 / (5 + 45 + 20 * 89));
        Check.due("11: a guarded one on its cell", x.got(1, 0), 100000000);
        x.on(1, false);
        Check.due("11: off too", x.got(1, 0), 100000000);
        Check.due("11: sender 2", x.got(2, 0), AirParted.BAD);
        Check.due("11: sender -1", x.got(-1, 0), AirParted.BAD);
        Check.due("11: cell 100", x.got(0, 100), AirParted.BAD);
        Check.due("11: cell -1", x.got(0, -1), AirParted.BAD);
    }

    private static void heardAtTheEdge() {
        AirParted x = new AirParted();
        // Got is 200 at the goal: 100 times 200 is just MUCH 2000 times NOISE 10.
        x.sender(0, 0, 4, 0, 2000, 1);
        Check.due("12: just enough", x.heard(0), 1);
        x.set(2, 11);
        Check.due("12: not enough", x.heard(0), 0);
        x.set(2, 5);
        x.sender(0, 2, 1, 0, 1, 50);
        // 50 of the other: MUCH 2000 times 55 is too much.
        Check.due("12: another is in the way", x.heard(0), 0);
        x.on(1, false);
        Check.due("12: one that is off is not", x.heard(0), 1);
        Check.due("12: off itself", x.heard(1), AirParted.NOT);
        x.on(1, true);
        x.change(1, 2, 1);
        Check.due("12: one in another slot is not", x.heard(0), 1);
        x.sender(2, 2, 1, 0, 1, 50);
        x.change(2, 2, 11);
        Check.due("12: a hopper elsewhere is not", x.heard(0), 1);
        x.pass(1);
        Check.due("12: a hopper that comes is", x.heard(0), 0);
        Check.due("12: sender 3", x.heard(3), AirParted.BAD);
        Check.due("12: sender -1", x.heard(-1), AirParted.BAD);
        AirParted y = new AirParted();
        y.sender(4, 0, 1000, 0, 1000, 2);
        // Kind: 100000 by 5 is 20000; at the worst 100000 by 5 and 45 and 1980: 49, below 100.
        Check.due("12: a guarded one is asked about at the worst", y.heard(0), 0);
        y.sender(0, 2, 1000, 0, 1, 2);
        Check.due("13: and is in another's way as kind", y.drowns(1), 20010);
    }

    private static void drowns() {
        AirParted x = new AirParted();
        x.sender(0, 0, 4, 0, 100, 1);
        Check.due("13: noise alone", x.drowns(0), 10);
        for (int i = 1; i < 20; i++) {
            x.sender(5, 1, 1000000, 0, 100, 1);
        }
        Check.due("13: as a long", x.drowns(0), 1900000010L);
        Check.due("13: itself is not counted", x.drowns(1), 1800000010L + 200);
        x.on(0, false);
        Check.due("13: off", x.drowns(0), Long.MIN_VALUE + 3);
        Check.due("13: sender 20", x.drowns(20), Long.MIN_VALUE + 2);
        Check.due("13: sender -1", x.drowns(-1), Long.MIN_VALUE + 2);
    }

    private static void cause() {
        AirParted x = new AirParted();
        x.set(2, 100);
        // Got of it is 1000; so up to 400 may be beside the noise.
        x.sender(0, 0, 10, 0, 200, 0);
        Check.due("14: heard", x.cause(0), 0);
        x.sender(0, 1, 4, 0, 1, 0);
        x.sender(0, 1, 4, 0, 1, 0);
        x.sender(0, 1, 6, 0, 1, 0);
        // 200, 200, 300: without 300 it is heard; without one of 200 it is not.
        Check.due("14: the one that counts", x.cause(0), 8);
        x.change(3, 0, 4);
        Check.due("14: of like ones the least", x.cause(0), 2);
        x.change(3, 0, 10);
        // 200, 200, 500: without 500 it is heard.
        Check.due("14: one rather than two", x.cause(0), 8);
        x.sender(0, 1, 8, 0, 1, 0);
        // 200, 200, 500, 400: without 500 and 400, or 500 and any: 800 or 600 or 400 left.
        Check.due("14: two", x.cause(0), 8 + 16);
        x.on(4, false);
        Check.due("14: those that are off are not named", x.cause(0), 8);
        x.change(0, 0, 1);
        Check.due("14: not even alone", x.cause(0), AirParted.NONE);
        x.on(0, false);
        Check.due("14: off", x.cause(0), AirParted.NOT);
        Check.due("14: sender 5", x.cause(5), AirParted.BAD);
        Check.due("14: sender -1", x.cause(-1), AirParted.BAD);
    }

    private static void causeOfMany() {
        AirParted x = new AirParted();
        for (int i = 0; i < 12; i++) {
            x.sender(0, i, 1000, 0, 100, i);
        }
        Check.due("14: eleven others", x.cause(0), AirParted.FULL);
        Check.due("14: eleven others, wrong sender", x.cause(12), AirParted.BAD);
        x.on(11, false);
        Check.holds("14: eleven others, one off, are not too many", x.cause(0) != AirParted.FULL);
        Check.due("14: off ahead of too many", x.cause(11), AirParted.NOT);
        x.on(11, true);
        x.change(11, 2, 1);
        Check.holds("14: one in another slot is not too many", x.cause(0) != AirParted.FULL);
        x.change(11, 2, 0);
        x.change(0, 0, 1000000);
        Check.due("14: heard, but too many", x.heard(0), 1);
        Check.due("14: too many ahead of heard", x.cause(0), AirParted.FULL);
    }
}
