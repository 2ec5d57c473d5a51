/** Sheets and findings of part 1 of the terms and promises 47 to 54, edge by edge: rows, copies, maps, counts, the digest. */
public final class EdgesSheetsTest {
    private static final int BAD = AirParted.BAD;
    private static final long LEAST = Long.MIN_VALUE;
    private static final int NULL = -11, INDEX = -12, CAST = -13, STORE = -14, SIZE = -15;

    public static void main(String[] args) {
        sheetIsBounded();
        sheetBelow0();
        sheetOfNoneAndOf400();
        sheetIsANewRow();
        loseIsBounded();
        loseTellsHowMany();
        putIsBounded();
        putOrder();
        putAtTheEnds();
        putTheLowestBits();
        getIsBounded();
        getOrder();
        getOfTheLeastLong();
        copyIsBounded();
        copyOrder();
        copyAtTheEnds();
        copyOntoItself();
        copyOfEachForm();
        mapIsBounded();
        mapAsManyAsThereAre();
        mapTheLowestBits();
        mapInMood0();
        mapOntoWhatItIsMadeOf();
        countIsBounded();
        countOfFullThings();
        findingsAreCounted();
        findingsStay();
        digestOfANewObject();
        digestLeavesOut();
        digestHasEach();
        digestOfFullThings();
        digestChangesNothing();
        fiveHundredAndTwelveCalls();
        Check.end();
    }

    /** SHEET 2 of ints 1000 to 1003, SHEET 3 of longs, SHEET 4 LOST, SHEET 5 of no bytes. */
    private static AirParted some() {
        return States.some();
    }

    // ---- promise 47

    private static void sheetIsBounded() {
        Refusal.bounds("47: SHEET", States::some, (x, v) -> x.sheet(v, 0, 1), 0, 5);
        Refusal.bounds("47: FORM", States::some, (x, v) -> x.sheet(0, v, 1), 0, 3);
        Refusal.bad("47: 401 items", States::some, x -> x.sheet(0, 0, 401));
        Refusal.bad("47: the greatest int of items", States::some, x -> x.sheet(0, 0, Integer.MAX_VALUE));
        Refusal.bad("47: 401 items of a LOST one", States::fresh, x -> x.sheet(0, 3, 401));
    }

    private static void sheetBelow0() {
        Refusal.finds("47: -1 items", States::some, x -> x.sheet(0, 0, -1), SIZE, 5);
        Refusal.finds("47: the least int of items", States::some, x -> x.sheet(3, 3, Integer.MIN_VALUE), SIZE, 5);
        Refusal.finds("47: -1 items of a LOST one", States::fresh, x -> x.sheet(0, 0, -1), SIZE, 5);
        Refusal.bad("47: BAD ahead of SIZE, SHEET 6", States::some, x -> x.sheet(6, 0, -1));
        Refusal.bad("47: BAD ahead of SIZE, SHEET -1", States::some, x -> x.sheet(-1, 0, -1));
        Refusal.bad("47: BAD ahead of SIZE, FORM 4", States::some, x -> x.sheet(0, 4, -1));
        Refusal.bad("47: BAD ahead of SIZE, FORM -1", States::some, x -> x.sheet(0, -1, -1));
    }

    private static void sheetOfNoneAndOf400() {
        for (int s = 0; s < 6; s++) {
            for (int form = 0; form < 4; form++) {
                AirParted x = new AirParted();
                Check.due("47: of none", x.sheet(s, form, 0), 0);
                Check.due("50: no item 0", x.get(s, form, 0), LEAST);
                Check.due("53: INDEX", x.count(9), 2);
                Check.due("48: it is there", x.lose(s), 0);
                Check.due("47: of one", x.sheet(s, form, 1), 1);
                Check.due("50: item 0 is 0 at first", x.get(s, form, 0), 0);
                Check.due("50: no item 1", x.get(s, form, 1), LEAST);
                Check.due("47: of 400", x.sheet(s, form, 400), 400);
                Check.due("50: item 399 is 0 at first", x.get(s, form, 399), 0);
                Check.due("50: no item 400", x.get(s, form, 400), LEAST);
                Check.due("48: of 400", x.lose(s), 400);
            }
        }
    }

    private static void sheetIsANewRow() {
        AirParted x = new AirParted();
        x.sheet(2, 3, 400);
        for (int i : new int[] {0, 1, 200, 399}) {
            x.put(2, 3, i, LEAST);
        }
        x.sheet(2, 3, 400);
        for (int i : new int[] {0, 1, 200, 399}) {
            Check.due("47: all is 0 again, item " + i, x.get(2, 3, i), 0);
        }
        x.put(2, 3, 5, 9);
        x.sheet(2, 0, 3);
        Check.due("47: shorter", x.get(2, 0, 5), LEAST);
        Check.due("47: of another FORM", x.get(2, 3, 0), LEAST);
        Check.due("53: CAST", x.count(9), 3);
        x.sheet(2, 3, 10);
        Check.due("47: longer again, and 0", x.get(2, 3, 5), 0);
        x.put(2, 3, 5, 9);
        x.lose(2);
        x.sheet(2, 3, 10);
        Check.due("47: made anew when it was LOST, and 0", x.get(2, 3, 5), 0);
        x.sheet(3, 3, 10);
        x.put(2, 3, 1, 4);
        Check.due("47: another SHEET is another row", x.get(3, 3, 1), 0);
    }

    // ---- promise 48

    private static void loseIsBounded() {
        for (int s : new int[] {-1, 6, Integer.MIN_VALUE, Integer.MAX_VALUE}) {
            Refusal.bad("48: SHEET " + s, States::some, x -> x.lose(s));
        }
        Refusal.finds("48: NULL", EdgesSheetsTest::some, x -> x.lose(4), NULL, 1);
        for (int s = 0; s < 6; s++) {
            int which = s;
            Refusal.finds("48: NULL of a new object, SHEET " + s, States::fresh, x -> x.lose(which), NULL, 1);
        }
    }

    private static void loseTellsHowMany() {
        AirParted x = States.some();
        int[] due = {30, 12, 4, 5, NULL, 0};
        for (int s = 0; s < 6; s++) {
            Check.due("48: SHEET " + s, x.lose(s), due[s]);
            Check.due("48: SHEET " + s + " is LOST then", x.lose(s), NULL);
            Check.due("49: nothing can be put then", x.put(s, 0, 0, 1), NULL);
        }
    }

    // ---- promise 49

    private static void putIsBounded() {
        Refusal.bounds("49: SHEET", States::full, (x, v) -> x.put(v, 0, 0, 1), 0, 5);
        Refusal.bounds("49: FORM", States::full, (x, v) -> x.put(0, v, 0, 1), 0, 3);
        Refusal.bad("49: SHEET 6 of a new object", States::fresh, x -> x.put(6, 0, 0, 1));
    }

    private static void putOrder() {
        Refusal.bad("49: BAD ahead of NULL, FORM 4", EdgesSheetsTest::some, x -> x.put(4, 4, 0, 1));
        Refusal.bad("49: BAD ahead of NULL, FORM -1", EdgesSheetsTest::some, x -> x.put(4, -1, 0, 1));
        Refusal.bad("49: BAD ahead of INDEX", EdgesSheetsTest::some, x -> x.put(2, 4, -1, 1));
        Refusal.finds("49: NULL", EdgesSheetsTest::some, x -> x.put(4, 0, 0, 1), NULL, 1);
        Refusal.finds("49: NULL ahead of INDEX", EdgesSheetsTest::some, x -> x.put(4, 0, -1, 1), NULL, 1);
        for (int form : new int[] {0, 1, 3}) {
            Refusal.finds("49: CAST, ints as FORM " + form, EdgesSheetsTest::some, x -> x.put(2, form, 0, 1), CAST, 3);
            Refusal.finds("49: CAST ahead of INDEX, FORM " + form, EdgesSheetsTest::some, x -> x.put(2, form, 4, 1), CAST, 3);
        }
        for (int i : new int[] {-1, 4, 399, 400, Integer.MIN_VALUE, Integer.MAX_VALUE}) {
            Refusal.finds("49: INDEX " + i, EdgesSheetsTest::some, x -> x.put(2, 2, i, 1), INDEX, 2);
        }
        Refusal.finds("49: INDEX 0 of none", EdgesSheetsTest::some, x -> x.put(5, 0, 0, 1), INDEX, 2);
        Refusal.finds("49: CAST of none", EdgesSheetsTest::some, x -> x.put(5, 1, 0, 1), CAST, 3);
    }

    private static void putAtTheEnds() {
        for (int form = 0; form < 4; form++) {
            AirParted x = new AirParted();
            x.sheet(0, form, 400);
            Check.due("49: item 0 of 400", x.put(0, form, 0, 5), 1);
            Check.due("49: item 399 of 400", x.put(0, form, 399, 6), 1);
            Check.due("49: item 400 of 400", x.put(0, form, 400, 7), INDEX);
            Check.due("50: item 0", x.get(0, form, 0), 5);
            Check.due("50: item 399", x.get(0, form, 399), 6);
            Check.due("50: item 1", x.get(0, form, 1), 0);
            Check.due("50: item 398", x.get(0, form, 398), 0);
        }
    }

    private static void putTheLowestBits() {
        long[] values = {0, 1, -1, 127, 128, -128, -129, 255, 256, 32767, 32768, -32768, -32769, 65535, 65536, 2147483647L, 2147483648L,
            -2147483648L, -2147483649L, 4294967295L, 4294967296L, Long.MAX_VALUE, Long.MIN_VALUE, 0x0123456789ABCDEFL};
        for (int form = 0; form < 4; form++) {
            int bits = 8 << form;
            AirParted x = new AirParted();
            x.sheet(0, form, 3);
            for (long v : values) {
                Check.due("49: put " + v, x.put(0, form, 1, v), 1);
                Check.due("50: the lowest " + bits + " bits of " + v, x.get(0, form, 1), v << 64 - bits >> 64 - bits);
            }
            Check.due("50: the items beside it", x.get(0, form, 0) + x.get(0, form, 2), 0);
        }
        AirParted y = new AirParted();
        y.sheet(0, 0, 1);
        y.put(0, 0, 0, 128);
        Check.due("50: a byte of 128", y.get(0, 0, 0), -128);
        y.sheet(0, 1, 1);
        y.put(0, 1, 0, 32768);
        Check.due("50: a short of 32768", y.get(0, 1, 0), -32768);
        y.sheet(0, 2, 1);
        y.put(0, 2, 0, 1L << 31);
        Check.due("50: an int of 2 to the 31st", y.get(0, 2, 0), -(1L << 31));
    }

    // ---- promise 50

    private static void getIsBounded() {
        Refusal.bounds("50: SHEET", States::full, (x, v) -> x.get(v, v == 5 ? 1 : 0, 0), 0, 5, LEAST);
        for (int form : new int[] {-1, 4, Integer.MIN_VALUE, Integer.MAX_VALUE}) {
            Refusal.due("50: FORM " + form, States::full, x -> x.get(0, form, 0), LEAST);
        }
        Refusal.due("50: BAD is no FINDING, of a LOST one", States::fresh, x -> x.get(0, 4, 0), LEAST);
        Refusal.due("50: BAD is no FINDING, SHEET 6", States::fresh, x -> x.get(6, 0, 0), LEAST);
    }

    private static void getOrder() {
        Refusal.finds("50: NULL", EdgesSheetsTest::some, x -> x.get(4, 0, 0), LEAST, 1);
        Refusal.finds("50: NULL ahead of INDEX", EdgesSheetsTest::some, x -> x.get(4, 0, -1), LEAST, 1);
        for (int form : new int[] {0, 1, 3}) {
            Refusal.finds("50: CAST, ints as FORM " + form, EdgesSheetsTest::some, x -> x.get(2, form, 0), LEAST, 3);
            Refusal.finds("50: CAST ahead of INDEX, FORM " + form, EdgesSheetsTest::some, x -> x.get(2, form, 4), LEAST, 3);
        }
        for (int i : new int[] {-1, 4, 400, Integer.MIN_VALUE, Integer.MAX_VALUE}) {
            Refusal.finds("50: INDEX " + i, EdgesSheetsTest::some, x -> x.get(2, 2, i), LEAST, 2);
        }
        Refusal.finds("50: INDEX 0 of none", EdgesSheetsTest::some, x -> x.get(5, 0, 0), LEAST, 2);
        AirParted x = States.some();
        for (int i = 0; i < 4; i++) {
            Check.due("50: item " + i, x.get(2, 2, i), 1000 + i);
        }
        Check.due("53: no FINDING by these", x.count(9), 1);
    }

    private static void getOfTheLeastLong() {
        AirParted x = new AirParted();
        x.sheet(0, 3, 1);
        x.put(0, 3, 0, LEAST);
        Check.due("50: an item of the least long", x.get(0, 3, 0), LEAST);
        Check.due("53: is no FINDING", x.count(9), 0);
    }

    // ---- promise 51

    private static void copyIsBounded() {
        Refusal.bounds("51: from SHEET", States::full, (x, v) -> x.copy(v, 0, v, 0, 1), 0, 5);
        for (int s : new int[] {-1, 6, Integer.MIN_VALUE, Integer.MAX_VALUE}) {
            Refusal.bad("51: to SHEET " + s, States::full, x -> x.copy(0, 0, s, 0, 1));
            Refusal.bad("51: from SHEET " + s, States::full, x -> x.copy(s, 0, 0, 0, 1));
            Refusal.bad("51: BAD ahead of NULL, to SHEET " + s, EdgesSheetsTest::some, x -> x.copy(4, 0, s, 0, 1));
            Refusal.bad("51: BAD ahead of NULL, from SHEET " + s, EdgesSheetsTest::some, x -> x.copy(s, 0, 4, 0, 1));
            Refusal.bad("51: BAD ahead of INDEX, to SHEET " + s, EdgesSheetsTest::some, x -> x.copy(2, -1, s, 0, 1));
        }
    }

    private static void copyOrder() {
        Refusal.finds("51: NULL, from", EdgesSheetsTest::some, x -> x.copy(4, 0, 2, 0, 1), NULL, 1);
        Refusal.finds("51: NULL, to", EdgesSheetsTest::some, x -> x.copy(2, 0, 4, 0, 1), NULL, 1);
        Refusal.finds("51: NULL, both", EdgesSheetsTest::some, x -> x.copy(4, 0, 4, 0, 0), NULL, 1);
        Refusal.finds("51: NULL ahead of INDEX", EdgesSheetsTest::some, x -> x.copy(2, -1, 4, 0, -1), NULL, 1);
        for (int t : new int[] {0, 1, 3, 5}) {
            Refusal.finds("51: STORE, ints to SHEET " + t, EdgesSheetsTest::some, x -> x.copy(2, 0, t, 0, 1), STORE, 4);
            Refusal.finds("51: STORE of no items, to SHEET " + t, EdgesSheetsTest::some, x -> x.copy(2, 0, t, 0, 0), STORE, 4);
            Refusal.finds("51: STORE ahead of INDEX, to SHEET " + t, EdgesSheetsTest::some, x -> x.copy(2, -1, t, 0, 1), STORE, 4);
            Refusal.finds("51: STORE the other way, from SHEET " + t, EdgesSheetsTest::some, x -> x.copy(t, 0, 2, 0, 0), STORE, 4);
        }
        int[][] wrong = {{-1, 0, 1}, {0, -1, 1}, {0, 0, -1}, {0, 0, 5}, {4, 0, 1}, {0, 4, 1}, {3, 0, 2}, {0, 3, 2}, {5, 0, 0}, {0, 5, 0},
            {-1, 0, 0}, {0, -1, 0}, {2, 2, -1}, {1, 0, Integer.MAX_VALUE}, {Integer.MAX_VALUE, 0, 1}, {0, Integer.MAX_VALUE, 1},
            {Integer.MAX_VALUE, Integer.MAX_VALUE, Integer.MAX_VALUE}, {0, 0, Integer.MIN_VALUE}, {Integer.MIN_VALUE, 0, 1},
            {4, 4, Integer.MIN_VALUE}, {0, 1, Integer.MAX_VALUE}};
        for (int[] w : wrong) {
            Refusal.finds("51: INDEX " + w[0] + ", " + w[1] + ", " + w[2], EdgesSheetsTest::some, x -> x.copy(2, w[0], 2, w[1], w[2]), INDEX, 2);
        }
        Refusal.finds("51: INDEX, one of none", EdgesSheetsTest::some, x -> x.copy(5, 0, 5, 0, 1), INDEX, 2);
        Refusal.finds("51: INDEX, one to none", EdgesSheetsTest::some, x -> x.copy(0, 0, 5, 0, 1), INDEX, 2);
        Refusal.finds("51: INDEX, one of none to some", EdgesSheetsTest::some, x -> x.copy(5, 0, 0, 0, 1), INDEX, 2);
    }

    private static void copyAtTheEnds() {
        AirParted x = States.some();
        x.sheet(4, 2, 6);
        Check.due("51: no items at the ends", x.copy(2, 4, 4, 6, 0), 1);
        Check.due("51: no items of none", x.copy(5, 0, 0, 30, 0), 1);
        Check.due("51: all of four to the end of six", x.copy(2, 0, 4, 2, 4), 1);
        long[] due = {0, 0, 1000, 1001, 1002, 1003};
        for (int i = 0; i < 6; i++) {
            Check.due("51: item " + i, x.get(4, 2, i), due[i]);
        }
        Check.due("51: the last to the first", x.copy(2, 3, 4, 0, 1), 1);
        Check.due("51: came", x.get(4, 2, 0), 1003);
        Check.due("51: nothing beside it", x.get(4, 2, 1), 0);
        for (int i = 0; i < 4; i++) {
            Check.due("51: those it came from stay, " + i, x.get(2, 2, i), 1000 + i);
        }
        AirParted y = new AirParted();
        y.sheet(0, 1, 400);
        y.sheet(1, 1, 400);
        y.put(0, 1, 0, 7);
        y.put(0, 1, 399, 8);
        Check.due("51: 400 items", y.copy(0, 0, 1, 0, 400), 1);
        Check.due("51: the first of 400", y.get(1, 1, 0), 7);
        Check.due("51: the last of 400", y.get(1, 1, 399), 8);
        Check.due("51: 401 items", y.copy(0, 0, 1, 0, 401), INDEX);
    }

    private static void copyOntoItself() {
        int[][] moves = {{0, 1, 3}, {1, 0, 3}, {0, 0, 4}, {0, 2, 2}, {2, 0, 2}, {0, 3, 1}};
        long[][] due = {{1000, 1000, 1001, 1002}, {1001, 1002, 1003, 1003}, {1000, 1001, 1002, 1003}, {1000, 1001, 1000, 1001},
            {1002, 1003, 1002, 1003}, {1000, 1001, 1002, 1000}};
        for (int k = 0; k < moves.length; k++) {
            AirParted x = States.some();
            Check.due("51: onto itself", x.copy(2, moves[k][0], 2, moves[k][1], moves[k][2]), 1);
            for (int i = 0; i < 4; i++) {
                Check.due("51: as they were, way " + k + ", item " + i, x.get(2, 2, i), due[k][i]);
            }
        }
    }

    private static void copyOfEachForm() {
        for (int form = 0; form < 4; form++) {
            AirParted x = new AirParted();
            x.sheet(0, form, 2);
            x.sheet(5, form, 2);
            x.put(0, form, 1, -1);
            Check.due("51: of FORM " + form, x.copy(0, 1, 5, 0, 1), 1);
            Check.due("51: came, of FORM " + form, x.get(5, form, 0), -1);
        }
    }

    // ---- promise 52

    private static void mapIsBounded() {
        Refusal.bounds("52: SENDER", States::some, (x, v) -> x.map(v, 2), 0, States.SENDERS - 1);
        Refusal.bounds("52: SHEET", States::full, (x, v) -> x.map(0, v), 0, 5);
        Refusal.bad("52: no SENDERS", States::fresh, x -> x.map(0, 0));
        Refusal.finds("52: NULL", EdgesSheetsTest::some, x -> x.map(0, 4), NULL, 1);
        Refusal.bad("52: BAD ahead of NULL", EdgesSheetsTest::some, x -> x.map(States.SENDERS, 4));
        Refusal.bad("52: BAD ahead of NULL, no SENDERS", States::fresh, x -> x.map(0, 4));
    }

    private static void mapAsManyAsThereAre() {
        AirParted x = new AirParted();
        x.land(2, 2);
        x.sender(0, 0, 3, 0, 1, 0);
        int[] cells = {300, 150, 150, 100};
        for (int n = 0; n <= 6; n++) {
            x.sheet(3, 2, n);
            for (int i = 0; i < n; i++) {
                x.put(3, 2, i, -7);
            }
            Check.due("52: " + n + " items for 4 cells", x.map(0, 3), Math.min(n, 4));
            for (int i = 0; i < n; i++) {
                Check.due("52: item " + i + " of " + n, x.get(3, 2, i), i < 4 ? cells[i] : -7);
            }
        }
        AirParted y = new AirParted();
        y.land(20, 20);
        y.sender(0, 399, 3, 0, 1, 0);
        y.sheet(2, 3, 400);
        Check.due("52: 400 cells", y.map(0, 2), 400);
        Check.due("52: the last of 400", y.get(2, 3, 399), 300);
        Check.due("52: the one beside it", y.get(2, 3, 398), 150);
        Check.due("52: the first of 400", y.get(2, 3, 0), 0);
        AirParted z = new AirParted();
        z.land(1, 1);
        z.sender(0, 0, 1, 0, 1, 0);
        z.sheet(2, 3, 400);
        Check.due("52: one cell", z.map(0, 2), 1);
        z.on(0, false);
        Check.due("52: of an OFF one", z.map(0, 2), 1);
    }

    private static void mapTheLowestBits() {
        long got = 100000000;
        for (int form = 0; form < 4; form++) {
            AirParted x = new AirParted();
            x.sender(0, 0, 1000000, 0, 1, 0);
            x.sheet(5, form, 1);
            x.map(0, 5);
            int bits = 8 << form;
            Check.due("52: the lowest " + bits + " bits", x.get(5, form, 0), got << 64 - bits >> 64 - bits);
        }
    }

    private static void mapInMood0() {
        for (int kind = 0; kind < 6; kind++) {
            AirParted x = new AirParted();
            x.sender(kind, 0, 10000, 0, 1, 0);
            x.sheet(5, 2, 3);
            x.map(0, 5);
            Check.due("52: MOOD 0 of KIND " + kind, x.get(5, 2, 2), 200000);
        }
        AirParted y = new AirParted();
        y.land(3, 1);
        y.sheet(0, 0, 3);
        y.put(0, 0, 1, 20);
        y.sender(1, 2, 1000, 20, 1, 0);
        y.change(0, 4, 3);
        y.sheet(3, 0, 1);
        y.sheet(5, 2, 3);
        y.map(0, 5);
        Check.due("52: from where it stands at TICK, by its MAST", y.get(5, 2, 2), 100000 / 205);
        y.pass(1);
        y.map(0, 5);
        Check.due("52: from its own cell", y.get(5, 2, 0), 100000 / 205);
    }

    private static void mapOntoWhatItIsMadeOf() {
        AirParted x = new AirParted();
        x.land(4, 1);
        x.sender(0, 0, 1, 0, 1, 0);
        x.sheet(0, 2, 4);
        x.sheet(1, 2, 4);
        x.put(1, 2, 1, 3);
        x.map(0, 1);
        // 5 and 15, 10 and 15: 100 by 20, by 25.
        long[] due = {100, 50, 5, 4};
        for (int i = 0; i < 4; i++) {
            Check.due("52: onto the WOODS, by the WOODS as they were, " + i, x.get(1, 2, i), due[i]);
        }
        x.map(0, 0);
        // WOODS 100, 50, 5, 4: UNKNOWN, UNKNOWN, 5, 4: 100 by 5, by 10 and 25.
        long[] then = {100, 50, 20, 2};
        for (int i = 0; i < 4; i++) {
            Check.due("52: onto the HILLS, by the HILLS as they were, " + i, x.get(0, 2, i), then[i]);
        }
    }

    // ---- promise 53

    private static void countIsBounded() {
        Refusal.bounds("53: what", States::some, (x, v) -> x.count(v), 0, 11);
        Refusal.bounds("53: what, of a new object", States::fresh, (x, v) -> x.count(v), 0, 11);
    }

    private static void countOfFullThings() {
        int[] some = {7, 6, 3, 17, 3, 2, 2, 3, 2, 1, 6, 5};
        int[] full = {20, 20, 8, 120, 8, 8, 6, 12, 0, 0, 6, 5};
        AirParted x = States.some();
        AirParted y = States.full();
        for (int what = 0; what < 12; what++) {
            Check.due("53: count(" + what + ") of some", x.count(what), some[what]);
            Check.due("53: count(" + what + ") of all", y.count(what), full[what]);
        }
        for (int i = 0; i < 20; i++) {
            y.on(i, false);
            Check.due("53: ON, less " + (i + 1), y.count(1), 19 - i);
        }
        for (int b = 0; b < 8; b++) {
            y.log(b, AirParted.NONE);
            Check.due("53: LOGS, less " + (b + 1), y.count(5), 7 - b);
        }
    }

    private static void findingsAreCounted() {
        AirParted x = States.some();
        Check.due("53: before, NULL", x.count(9), 1);
        Check.due("47: SIZE", x.sheet(0, 0, -1), SIZE);
        Check.due("53: SIZE is 5", x.count(9), 5);
        Check.due("51: STORE", x.copy(2, 0, 3, 0, 1), STORE);
        Check.due("53: STORE is 4", x.count(9), 4);
        Check.due("49: CAST", x.put(2, 3, 0, 1), CAST);
        Check.due("53: CAST is 3", x.count(9), 3);
        Check.due("49: INDEX", x.put(2, 2, 4, 1), INDEX);
        Check.due("53: INDEX is 2", x.count(9), 2);
        Check.due("48: NULL", x.lose(4), NULL);
        Check.due("53: NULL is 1", x.count(9), 1);
        Check.due("53: 0 before any", new AirParted().count(9), 0);
    }

    private static void findingsStay() {
        AirParted x = States.some();
        x.sheet(0, 0, -1);
        x.sheet(0, 0, 401);
        Check.due("53: BAD leaves the latest", x.count(9), 5);
        x.land(1, 1);
        Check.due("53: NOT leaves the latest", x.count(9), 5);
        x.sheet(4, 0, 3);
        x.put(4, 0, 0, 1);
        x.get(4, 0, 0);
        x.copy(4, 0, 4, 1, 1);
        x.map(0, 4);
        x.lose(4);
        Check.due("53: calls that are not refused leave the latest", x.count(9), 5);
        AirParted y = States.full();
        y.sheet(0, 0, -1);
        y.sender(0, 0, 1, 0, 1, 0);
        y.box(0);
        Check.due("53: FULL leaves the latest", y.count(9), 5);
    }

    // ---- promise 54

    private static long add(long h, long... values) {
        long sum = h;
        for (long v : values) {
            sum = 31 * sum + v;
        }
        return sum;
    }

    private static void digestOfANewObject() {
        Check.due("54: of a new object", new AirParted().digest(),
            add(17, 0, 0, 0, 0, 0, 0, 0, 0, 0, 10, 10, 5, 20, 10, 100, 100, 0, 0, 0));
    }

    private static void digestLeavesOut() {
        AirParted x = States.some();
        long was = x.digest();
        x.sheet(0, 0, -1);
        Check.due("54: FINDINGS do not count", x.digest(), was);
        x.sheet(4, 0, 9);
        Check.due("54: a SHEET that nothing is made of does not count", x.digest(), was);
        x.change(States.HOPPER, 3, 5 + 6);
        Check.due("54: a STEP that comes to the same SLOT does not count", x.digest(), was);
        x.listen(0, 1, 1);
        Check.due("54: what was spoken does not count", x.digest(), was);
    }

    private static void digestHasEach() {
        AirParted x = States.some();
        long h = 17;
        for (int what = 0; what <= 8; what++) {
            h = add(h, x.count(what));
        }
        h = add(h, 6, 5, 4, 19, 9, 90, 80);
        for (int i = 0; i < States.SENDERS; i++) {
            for (int what = 0; what <= 10; what++) {
                h = add(h, x.about(i, what));
            }
            h = add(h, x.heard(i));
        }
        Check.due("12: -3 of the OFF one", x.heard(0), -3);
        Check.due("54: of some", x.digest(), add(h, x.won(), x.plan(500, 0), x.plan(500, 1)));
    }

    private static void digestOfFullThings() {
        AirParted x = States.full();
        long h = 17;
        for (int what = 0; what <= 8; what++) {
            h = add(h, x.count(what));
        }
        h = add(h, 6, 5, 4, 19, 9, 90, 80);
        for (int i = 0; i < 20; i++) {
            for (int what = 0; what <= 10; what++) {
                h = add(h, x.about(i, what));
            }
            h = add(h, x.heard(i));
        }
        Check.due("54: of all, as longs that wrap", x.digest(), add(h, x.won(), x.plan(500, 0), x.plan(500, 1)));
    }

    private static void digestChangesNothing() {
        AirParted x = States.some();
        long was = x.digest();
        Check.due("54: again", x.digest(), was);
        Check.due("54: plan() is as it was", x.plan(10000, 0), States.some().plan(10000, 0));
        AirParted y = new AirParted();
        y.site(0, 0, 1, 2, 500, 501);
        y.ear(0, 9);
        Check.due("54: a PLAN of just 500", y.digest(), add(17, 0, 0, 0, 0, 0, 0, 1, 1, 0, 10, 10, 5, 20, 10, 100, 100, 0, 1, 9));
        AirParted z = new AirParted();
        z.site(0, 0, 1, 2, 501, 501);
        z.ear(0, 9);
        Check.due("54: a PLAN of 501 is beyond", z.digest(), add(17, 0, 0, 0, 0, 0, 0, 1, 1, 0, 10, 10, 5, 20, 10, 100, 100, 0, 0, 0));
    }

    private static void fiveHundredAndTwelveCalls() {
        AirParted x = new AirParted();
        x.sheet(0, 3, 1);
        for (int k = 1; k <= 255; k++) {
            Check.due("49: call " + 2 * k, x.put(0, 3, 0, k), 1);
            Check.due("50: call " + (2 * k + 1), x.get(0, 3, 0), k);
        }
        Check.due("50: the 512th call", x.get(0, 3, 0), 255);
        AirParted y = new AirParted();
        for (int k = 1; k <= 512; k++) {
            Check.due("51: call " + k + " of 512 refused ones", y.lose(0), NULL);
        }
    }
}
