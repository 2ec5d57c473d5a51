/** Promises 47 to 54: sheet, lose, put, get, copy, map, count, digest. */
public final class SheetsTest {
    private static final long LEAST = Long.MIN_VALUE;

    public static void main(String[] args) {
        sheet();
        lose();
        putAndGet();
        order();
        copy();
        map();
        mapOntoTheLand();
        count();
        digest();
        digestOfMany();
        Check.end();
    }

    private static void sheet() {
        AirParted x = new AirParted();
        int[][] bad = {{-1, 0, 1}, {6, 0, 1}, {0, -1, 1}, {0, 4, 1}, {0, 0, 401}, {6, 0, -1}, {0, 4, -1}, {0, 0, Integer.MAX_VALUE}};
        for (int[] b : bad) {
            Check.due("47: wrong sheet", x.sheet(b[0], b[1], b[2]), AirParted.BAD);
        }
        Check.due("53: no finding by BAD", x.count(9), 0);
        Check.due("47: below 0", x.sheet(0, 0, -1), -15);
        Check.due("53: SIZE", x.count(9), 5);
        Check.due("47: far below 0", x.sheet(0, 0, Integer.MIN_VALUE), -15);
        Check.due("48: it is lost still", x.lose(0), -11);
        Check.due("47: of none", x.sheet(0, 3, 0), 0);
        Check.due("47: of 400", x.sheet(5, 3, 400), 400);
        Check.due("47: 0 at first", x.get(5, 3, 399), 0);
        x.put(5, 3, 399, 77);
        x.put(5, 3, 0, 77);
        Check.due("47: anew", x.sheet(5, 3, 400), 400);
        Check.due("47: 0 at first again", x.get(5, 3, 399) + x.get(5, 3, 0), 0);
        Check.due("47: shorter", x.sheet(5, 0, 2), 2);
        Check.due("50: what is gone", x.get(5, 0, 2), LEAST);
    }

    private static void lose() {
        AirParted x = new AirParted();
        Check.due("48: -1", x.lose(-1), AirParted.BAD);
        Check.due("48: 6", x.lose(6), AirParted.BAD);
        x.sheet(3, 1, 17);
        Check.due("48: how many", x.lose(3), 17);
        Check.due("48: lost", x.lose(3), -11);
        Check.due("53: NULL", x.count(9), 1);
        x.sheet(3, 1, 0);
        Check.due("48: of none", x.lose(3), 0);
    }

    private static void putAndGet() {
        AirParted x = new AirParted();
        long[] values = {0, 1, -1, 127, 128, 255, 256, 32767, 32768, 65535, 65536, Integer.MAX_VALUE, 1L << 31, 1L << 32, (1L << 40) + 5,
            Long.MAX_VALUE, Long.MIN_VALUE};
        for (int form = 0; form < 4; form++) {
            x.sheet(form, form, 2);
            for (long v : values) {
                long due = form == 0 ? (byte) v : form == 1 ? (short) v : form == 2 ? (int) v : v;
                Check.due("49: put " + v, x.put(form, form, 1, v), 1);
                Check.due("50: get " + v + " of form " + form, x.get(form, form, 1), due);
                Check.due("50: the one beside it", x.get(form, form, 0), 0);
            }
        }
    }

    private static void order() {
        AirParted x = new AirParted();
        x.sheet(0, 2, 3);
        Check.due("49: sheet 6", x.put(6, 9, 9, 0), AirParted.BAD);
        Check.due("49: sheet -1", x.put(-1, 0, 0, 0), AirParted.BAD);
        Check.due("49: form 4", x.put(1, 4, 0, 0), AirParted.BAD);
        Check.due("49: form -1", x.put(1, -1, 0, 0), AirParted.BAD);
        Check.due("50: sheet 6", x.get(6, 0, 0), LEAST);
        Check.due("50: form 4", x.get(0, 4, 0), LEAST);
        Check.due("53: no finding by BAD", x.count(9), 0);
        Check.due("49: NULL ahead of INDEX", x.put(1, 2, -1, 0), -11);
        Check.due("53: NULL", x.count(9), 1);
        Check.due("49: CAST ahead of INDEX", x.put(0, 1, -1, 0), -13);
        Check.due("53: CAST", x.count(9), 3);
        for (int i : new int[] {-1, 3, Integer.MIN_VALUE, Integer.MAX_VALUE}) {
            Check.due("49: INDEX", x.put(0, 2, i, 0), -12);
            Check.due("53: INDEX", x.count(9), 2);
        }
        Check.due("50: NULL", x.get(1, 2, 9), LEAST);
        Check.due("53: NULL by get", x.count(9), 1);
        Check.due("50: CAST", x.get(0, 3, 9), LEAST);
        Check.due("53: CAST by get", x.count(9), 3);
        Check.due("50: INDEX", x.get(0, 2, 3), LEAST);
        Check.due("53: INDEX by get", x.count(9), 2);
        Check.due("50: right", x.get(0, 2, 2), 0);
        Check.due("53: the latest stays", x.count(9), 2);
    }

    private static void copy() {
        AirParted x = new AirParted();
        Check.due("51: sheet 6", x.copy(6, 0, 0, 0, 0), AirParted.BAD);
        Check.due("51: to sheet -1", x.copy(0, 0, -1, 0, 0), AirParted.BAD);
        Check.due("51: NULL", x.copy(0, 0, 1, 0, 0), -11);
        x.sheet(0, 2, 5);
        Check.due("51: NULL of the other", x.copy(0, 0, 1, 0, 0), -11);
        Check.due("51: NULL of the one", x.copy(1, 0, 0, 0, 0), -11);
        x.sheet(1, 1, 5);
        Check.due("51: STORE ahead of INDEX", x.copy(0, -1, 1, 0, 0), -14);
        Check.due("53: STORE", x.count(9), 4);
        x.sheet(1, 2, 3);
        for (int i = 0; i < 5; i++) {
            x.put(0, 2, i, 10 + i);
        }
        int[][] wrong = {{-1, 0, 1}, {0, -1, 1}, {0, 0, -1}, {5, 0, 1}, {4, 0, 2}, {0, 3, 1}, {0, 1, 3}, {6, 0, 0}, {0, 4, 0},
            {Integer.MAX_VALUE, 0, 1}, {1, 1, Integer.MAX_VALUE}, {Integer.MAX_VALUE, Integer.MAX_VALUE, Integer.MAX_VALUE},
            {Integer.MIN_VALUE, 0, Integer.MIN_VALUE}};
        for (int[] b : wrong) {
            Check.due("51: INDEX " + b[0] + " " + b[1] + " " + b[2], x.copy(0, b[0], 1, b[1], b[2]), -12);
        }
        Check.due("53: INDEX", x.count(9), 2);
        Check.due("51: none, at the ends", x.copy(0, 5, 1, 3, 0), 1);
        Check.due("51: three", x.copy(0, 2, 1, 0, 3), 1);
        for (int i = 0; i < 3; i++) {
            Check.due("51: came", x.get(1, 2, i), 12 + i);
        }
        Check.due("51: onto itself, upwards", x.copy(0, 0, 0, 1, 4), 1);
        int[] up = {10, 10, 11, 12, 13};
        for (int i = 0; i < 5; i++) {
            Check.due("51: as they were, upwards", x.get(0, 2, i), up[i]);
        }
        Check.due("51: onto itself, downwards", x.copy(0, 2, 0, 0, 3), 1);
        int[] down = {11, 12, 13, 12, 13};
        for (int i = 0; i < 5; i++) {
            Check.due("51: as they were, downwards", x.get(0, 2, i), down[i]);
        }
    }

    private static void map() {
        AirParted x = new AirParted();
        x.land(3, 1);
        x.sender(4, 0, 4, 0, 1, 0);
        Check.due("52: sender 1", x.map(1, 0), AirParted.BAD);
        Check.due("52: sender -1", x.map(-1, 0), AirParted.BAD);
        Check.due("52: sheet 6", x.map(0, 6), AirParted.BAD);
        Check.due("52: sheet -1", x.map(0, -1), AirParted.BAD);
        Check.due("52: NULL", x.map(0, 2), -11);
        Check.due("53: NULL", x.count(9), 1);
        x.sheet(2, 0, 4);
        x.put(2, 0, 3, 9);
        Check.due("52: as many as cells", x.map(0, 2), 3);
        // 400, 200, 80 as bytes; a guarded one as kind.
        int[] due = {(byte) 400, (byte) 200, 80, 9};
        for (int i = 0; i < 4; i++) {
            Check.due("52: the lowest bits " + i, x.get(2, 0, i), due[i]);
        }
        x.sheet(2, 1, 2);
        Check.due("52: as many as items", x.map(0, 2), 2);
        Check.due("52: a short", x.get(2, 1, 0), 400);
        x.sheet(2, 3, 0);
        Check.due("52: no items", x.map(0, 2), 0);
        x.sheet(2, 2, 3);
        x.change(0, 0, 1000000);
        x.map(0, 2);
        Check.due("52: an int", x.get(2, 2, 0), 100000000);
    }

    /** What comes to the sheet of hills must not change what comes behind it. */
    private static void mapOntoTheLand() {
        AirParted x = new AirParted();
        x.land(5, 1);
        x.sender(0, 0, 1, 0, 1, 0);
        x.sheet(0, 2, 5);
        Check.due("52: onto the hills", x.map(0, 0), 5);
        int[] due = {100, 50, 20, 10, 5};
        for (int i = 0; i < 5; i++) {
            Check.due("52: by the hills as they were " + i, x.get(0, 2, i), due[i]);
        }
        AirParted y = new AirParted();
        y.land(5, 1);
        y.sender(1, 4, 1, 0, 1, 0);
        y.change(0, 4, 3);
        y.sheet(3, 2, 5);
        Check.due("52: onto its row", y.map(0, 3), 5);
        for (int i = 0; i < 5; i++) {
            Check.due("52: from where it stood " + i, y.get(3, 2, i), due[i]);
        }
        Check.due("52: then it stands on its own cell", y.about(0, 1), 4);
    }

    private static void count() {
        AirParted x = new AirParted();
        x.land(7, 9);
        x.sender(0, 0, 1, 0, 1, 0);
        x.sender(0, 0, 1, 0, 1, 0);
        x.sender(0, 0, 1, 0, 1, 0);
        x.on(1, false);
        x.bid(0, 1, 1);
        for (int i = 0; i < 4; i++) {
            x.type('+');
            x.box(0);
        }
        x.log(3, 5);
        x.log(0, 5);
        for (int i = 0; i < 5; i++) {
            x.site(0, 0, 1, 2, 1, 1);
            x.ear(0, 1);
        }
        x.ear(0, 1);
        x.pass(8);
        x.sheet(0, 0, -9);
        int[] due = {3, 2, 1, 4, 4, 2, 5, 6, 8, 5, 7, 9};
        for (int what = 0; what < due.length; what++) {
            Check.due("53: count(" + what + ")", x.count(what), due[what]);
        }
        Check.due("53: count(12)", x.count(12), AirParted.BAD);
        Check.due("53: count(-1)", x.count(-1), AirParted.BAD);
    }

    private static long add(long h, int... values) {
        for (int v : values) {
            h = 31 * h + v;
        }
        return h;
    }

    private static void digest() {
        AirParted x = new AirParted();
        long due = add(17, 0, 0, 0, 0, 0, 0, 0, 0, 0, 10, 10, 5, 20, 10, 100, 100, 0, 0, 0);
        Check.due("54: of a new object", x.digest(), due);
        x.lose(0);
        Check.due("54: findings do not count", x.digest(), due);
        x.sheet(4, 2, 9);
        Check.due("54: sheets do not count", x.digest(), due);
    }

    private static void digestOfMany() {
        AirParted x = new AirParted();
        x.land(2, 2);
        x.set(0, 1);
        x.set(1, 2);
        x.set(2, 3);
        x.set(3, 4);
        x.set(4, 5);
        x.sender(2, 3, 100, 7, 11, 2);
        x.sender(0, 1, 50, 0, 10000, 1);
        x.change(0, 1, 13);
        x.on(1, false);
        x.bid(1, 1, 5);
        x.bid(0, 2, 5);
        x.type(1);
        x.box(2);
        x.log(0, 9);
        x.site(0, 0, 10, 20, 30, 500);
        x.ear(1, 17);
        x.pass(14);
        // Slot of the hopper: 14 modulo 12; it is heard, the other is off.
        long due = add(17, 2, 1, 2, 1, 1, 1, 1, 1, 14, 2, 2, 1, 2, 3, 4, 5);
        due = add(due, 2, 3, 100, 7, 11, 2, 13, 2, 1, 3, 0, 1);
        due = add(due, 0, 1, 50, 0, 10000, 1, 1, 0, 0, 1, 0, -3);
        Check.due("54: of many", x.digest(), add(due, 3, 1, 17));
        x.set(2, 10000);
        // 500 got of the first STRENGTH is below a tenth of NOISE, 1000 of the second is not.
        x.set(4, 10);
        due = add(17, 2, 1, 2, 1, 1, 1, 1, 1, 14, 2, 2, 1, 2, 10000, 4, 10);
        due = add(due, 2, 3, 100, 7, 11, 2, 13, 2, 1, 3, 0, x.heard(0));
        due = add(due, 0, 1, 50, 0, 10000, 1, 1, 0, 0, 1, 0, -3);
        Check.due("54: a plan of 500", x.digest(), add(due, 3, 2, 17));
        AirParted y = new AirParted();
        y.site(0, 0, 1, 2, 501, 501);
        y.ear(0, 9);
        due = add(17, 0, 0, 0, 0, 0, 0, 1, 1, 0, 10, 10, 5, 20, 10, 100, 100, 0, 0, 0);
        Check.due("54: a plan of 501 is too dear", y.digest(), due);
    }
}
