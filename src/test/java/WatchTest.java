/** Promises 37 to 42: box, log, hear, cells, cell, cheats. */
public final class WatchTest {
    public static void main(String[] args) {
        boxes();
        hear();
        agreeing();
        slack();
        cheats();
        Check.end();
    }

    private static void boxes() {
        AirParted x = new AirParted();
        Check.due("37: cell -1", x.box(-1), AirParted.BAD);
        Check.due("37: cell 100", x.box(100), AirParted.BAD);
        Check.due("38: no box", x.log(0, 5), -3);
        for (int b = 0; b < 8; b++) {
            Check.due("37: box " + b, x.box(99 - b), b);
        }
        Check.due("37: one more", x.box(0), AirParted.FULL);
        Check.due("37: a wrong one more", x.box(100), AirParted.BAD);
        Check.due("37: how many", x.count(4), 8);
        Check.due("38: torn at first", x.count(5), 0);
        Check.due("38: log", x.log(7, 0), AirParted.NONE);
        Check.due("38: log the most", x.log(7, 100000000), 0);
        Check.due("38: counted", x.count(5), 1);
        Check.due("38: tear", x.log(7, AirParted.NONE), 100000000);
        Check.due("38: torn", x.log(7, AirParted.NONE), AirParted.NONE);
        Check.due("38: counted", x.count(5), 0);
        x.sender(0, 0, 1, 0, 1, 0);
        Check.due("39: eight boxes", x.hear(0), 8);
        Check.due("39: counted", x.count(5), 8);
        Check.due("38: box 8", x.log(8, 1), -3);
        Check.due("38: box -1", x.log(-1, 1), -3);
        Check.due("38: too much", x.log(0, 100000001), -3);
        Check.due("38: below none", x.log(0, -2), -3);
    }

    private static void hear() {
        AirParted x = new AirParted();
        x.land(5, 1);
        x.sender(4, 0, 100, 20, 1, 0);
        Check.due("39: no boxes", x.hear(0), 0);
        x.box(0);
        x.box(2);
        x.log(0, 7);
        Check.due("39: sender 1", x.hear(1), AirParted.BAD);
        Check.due("39: sender -1", x.hear(-1), AirParted.BAD);
        x.on(0, false);
        Check.due("39: how many", x.hear(0), 2);
        Check.due("39: on its cell", x.log(0, -1), 10000);
        // Unknown ground is 0: a guarded one is heard as kind.
        Check.due("39: two off, in mood 0", x.log(1, -1), 2000);
        x.sheet(0, 2, 5);
        x.put(0, 2, 1, 30);
        x.hear(0);
        // Half way from 20 to 0 is 10, 20 above.
        Check.due("39: over a hill with its mast", x.log(1, -1), 10000 / (5 + 400));
    }

    private static void agreeing() {
        AirParted x = new AirParted();
        x.land(5, 5);
        int[][] bad = {{0, 0}, {1000001, 0}, {1, -1}, {1, 101}};
        for (int[] b : bad) {
            Check.due("40: wrong", x.cells(b[0], b[1]), AirParted.BAD);
            Check.due("41: wrong", x.cell(b[0], b[1], 0), AirParted.BAD);
        }
        Check.due("41: i -1", x.cell(1, 0, -1), AirParted.BAD);
        Check.due("40: no boxes", x.cells(1000000, 100), 25);
        Check.due("41: no boxes, the last", x.cell(1, 0, 24), 24);
        Check.due("41: no boxes, behind the last", x.cell(1, 0, 25), AirParted.NONE);
        Check.due("41: far behind the last", x.cell(1, 0, Integer.MAX_VALUE), AirParted.NONE);
        x.box(12);
        Check.due("40: a torn one", x.cells(6, 0), 25);
        // 600 by 1, 2, 3, 5, 6, 9 as far as the corner.
        x.log(0, 300);
        Check.due("40: neighbours", x.cells(6, 0), 4);
        int[] due = {7, 11, 13, 17, -1};
        for (int i = 0; i < due.length; i++) {
            Check.due("41: neighbour " + i, x.cell(6, 0, i), due[i]);
        }
        x.log(0, 100);
        Check.due("40: a knight's step off", x.cells(6, 0), 8);
        x.log(0, 600);
        Check.due("40: the cell itself", x.cells(6, 0), 1);
        Check.due("41: the cell itself", x.cell(6, 0, 0), 12);
        x.log(0, 601);
        Check.due("40: none", x.cells(6, 0), 0);
        x.box(10);
        x.log(0, 300);
        x.log(1, 300);
        Check.due("40: of two boxes", x.cells(6, 0), 1);
        Check.due("41: of two boxes", x.cell(6, 0, 0), 11);
        Check.due("40: another strength", x.cells(12, 0), 0);
    }

    private static void slack() {
        AirParted x = new AirParted();
        x.land(1, 1);
        x.box(0);
        // It would have got 900: slack 10 is 10 times 1000 by 100: 100 up or down.
        int[] got = {799, 800, 900, 1000, 1001};
        int[] due = {0, 1, 1, 1, 0};
        for (int i = 0; i < got.length; i++) {
            x.log(0, got[i]);
            Check.due("40: slack 10 of " + got[i], x.cells(9, 10), due[i]);
        }
        x.log(0, 1900);
        Check.due("40: slack 100 of 1900", x.cells(9, 100), 1);
        x.log(0, 1901);
        Check.due("40: slack 100 of 1901", x.cells(9, 100), 0);
        // A cell behind the last would agree with this one.
        x.log(0, 450);
        x.sender(0, 0, 9, 0, 1, 0);
        Check.due("40: none but a cell that is not there", x.cells(9, 0), 0);
        Check.due("41: none but a cell that is not there", x.cell(9, 0, 0), AirParted.NONE);
        Check.due("42: none but a cell that is not there", x.cheats(0, 30, 0), 1);
        x.log(0, 100000000);
        Check.due("40: the most of the least", x.cells(1, 100), 0);
        x.log(0, 0);
        Check.due("40: the least of the most", x.cells(1000000, 99), 0);
        Check.due("40: the least of the most, slack 100", x.cells(1000000, 100), 1);
    }

    private static void cheats() {
        AirParted x = new AirParted();
        x.land(10, 10);
        x.sender(5, 44, 6, 0, 1, 0);
        Check.due("42: no boxes", x.cheats(0, 0, 0), AirParted.NOT);
        x.box(44);
        Check.due("42: all torn", x.cheats(0, 0, 0), AirParted.NOT);
        int[][] bad = {{1, 0, 0}, {-1, 0, 0}, {0, -1, 0}, {0, 31, 0}, {0, 0, -1}, {0, 0, 101}};
        for (int[] b : bad) {
            Check.due("42: wrong", x.cheats(b[0], b[1], b[2]), AirParted.BAD);
        }
        x.hear(0);
        Check.due("42: where it stands", x.cheats(0, 0, 0), 0);
        // 600 by 6 is 100: dx 1, dy 2 off; 5 is above 2 times 2.
        x.log(0, 100);
        Check.due("42: within 2 none", x.cheats(0, 2, 0), 1);
        Check.due("42: within 3 some", x.cheats(0, 3, 0), 0);
        // 600 by 5 is 120: two cells off, just within 2.
        x.log(0, 120);
        Check.due("42: just within 2", x.cheats(0, 2, 0), 0);
        Check.due("42: not within 1", x.cheats(0, 1, 0), 1);
        x.log(0, 599);
        Check.due("42: none at all", x.cheats(0, 30, 0), 1);
        x.change(0, 0, 12);
        x.log(0, 600);
        // With STRENGTH 12 it is 1200 by 2.
        Check.due("42: its strength as it is", x.cheats(0, 0, 0), 1);
        Check.due("42: its strength as it is, one off", x.cheats(0, 1, 0), 0);
        AirParted y = new AirParted();
        y.sender(1, 0, 6, 0, 1, 0);
        y.change(0, 4, 3);
        y.box(99);
        y.log(0, 600);
        Check.due("42: a mover on its own cell", y.cheats(0, 5, 0), 1);
        y.sheet(3, 2, 1);
        y.put(3, 2, 0, 98);
        Check.due("42: a mover where it stands at the tick", y.cheats(0, 1, 0), 0);
        y.pass(1);
        Check.due("42: a mover gone home", y.cheats(0, 1, 0), 1);
    }
}
