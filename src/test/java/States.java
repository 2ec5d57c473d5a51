import java.util.ArrayList;
import java.util.List;

/** Objects made ready for a question, and all that can be seen of one, in few enough calls (512 an object). */
final class States {
    /** The land of some() and of full(). */
    static final int CELLS = 30;
    /** How many there are in some(). */
    static final int SENDERS = 7, BIDS = 3, BOXES = 3, SITES = 2, EARS = 3;
    /** A sender of some() for each KIND; number 6 is a LISTENER more. */
    static final int FIXED = 0, MOVER = 1, HOPPER = 2, LISTENER = 3, GUARDED = 4, CHEAT = 5;

    private States() {
    }

    static AirParted fresh() {
        return new AirParted();
    }

    /** No SENDERS, BOXES, SITES, EARS; all else is not as at first. */
    static AirParted bare() {
        AirParted x = new AirParted();
        x.land(6, 5);
        tell(x);
        rows(x);
        x.pass(2);
        typed(x, "+3:0-5@10-20;-*:2");
        x.lose(4);
        return x;
    }

    /** Some of everything, nothing full; the latest FINDING is 1, SHEET 4 is LOST, SHEET 5 has no items. */
    static AirParted some() {
        AirParted x = new AirParted();
        x.land(6, 5);
        tell(x);
        rows(x);
        for (int kind = 0; kind < 6; kind++) {
            x.sender(kind, 4 * kind, 100 + 50 * kind, 3 * kind, 20 + kind, 29 - 3 * kind);
            x.change(kind, 1, 40 + kind);
        }
        x.sender(3, 28, 70, 0, 30, 27);
        x.change(6, 1, 66);
        x.change(HOPPER, 3, 5);
        x.change(CHEAT, 3, 7);
        x.change(MOVER, 4, 3);
        x.change(GUARDED, 2, 4);
        x.on(FIXED, false);
        x.pass(2);
        x.listen(0, 77, 30);
        x.bid(1, 3, 10);
        x.bid(2, 6, 18);
        x.bid(1, 12, 10);
        typed(x, "+3:0-5@10-20;-*:2");
        x.box(0);
        x.box(5);
        x.box(24);
        x.log(0, 900);
        x.log(2, 700);
        x.site(0, 5, 10, 40, 30, 50);
        x.site(29, 5, 10, 40, 30, 50);
        x.ear(1, 10);
        x.ear(28, 7);
        x.ear(14, 20);
        x.lose(4);
        return x;
    }

    /** All that can be full is full; no SHEET is LOST. */
    static AirParted full() {
        AirParted x = new AirParted();
        x.land(6, 5);
        tell(x);
        for (int s = 0; s < 6; s++) {
            x.sheet(s, s % 4, 400);
            x.put(s, s % 4, 0, s + 1);
            x.put(s, s % 4, 399, s + 2);
        }
        for (int i = 0; i < 20; i++) {
            x.sender(i % 6, i, 100 + i, i, 20 + i, 29 - i);
            x.change(i, 2, i % 3);
        }
        x.listen(0, 5, 9);
        for (int b = 0; b < 8; b++) {
            x.bid(b, 1 << b | 1 << b + 1, 10 + b);
            x.box(3 * b);
            x.log(b, 500 + b);
        }
        StringBuilder text = new StringBuilder();
        for (int r = 0; r < 23; r++) {
            text.append("+-".charAt(r % 2)).append(r % 6).append(':').append(r % 10).append(';');
        }
        typed(x, text + "+3:11");
        for (int s = 0; s < 6; s++) {
            x.site(5 * s, s, 10 + s, 40 + s, 30 + s, 50 + s);
        }
        for (int e = 0; e < 12; e++) {
            x.ear(2 * e, 1 + e);
        }
        return x;
    }

    private static void tell(AirParted x) {
        x.set(0, 4);
        x.set(1, 19);
        x.set(2, 9);
        x.set(3, 90);
        x.set(4, 80);
    }

    private static void rows(AirParted x) {
        x.sheet(0, 0, 30);
        x.sheet(1, 1, 12);
        x.sheet(2, 2, 4);
        x.sheet(3, 3, 5);
        x.sheet(5, 0, 0);
        for (int i = 0; i < 4; i++) {
            x.put(0, 0, 5 * i + 1, 7 + i);
            x.put(1, 1, 3 * i, i);
            x.put(2, 2, i, 1000 + i);
            x.put(3, 3, i, 20 + i);
        }
    }

    static void typed(AirParted x, String text) {
        for (int i = 0; i < text.length(); i++) {
            x.type(text.charAt(i));
        }
    }

    /** The latest FINDING first, then what the digest and the calls that answer "what it was" show. */
    static List<Long> outside(AirParted x) {
        List<Long> all = new ArrayList<>();
        all.add((long) x.count(9));
        all.add(x.digest());
        for (int i = 0; i < 20; i++) {
            for (int what = 0; what < 3; what++) {
                all.add((long) x.spoke(i, what));
            }
        }
        for (int b = 0; b < 8; b++) {
            all.add((long) x.pays(b));
        }
        for (int p = 1; p < 9; p++) {
            all.add((long) x.serves(p));
        }
        for (int what = 0; what < 3; what++) {
            all.add((long) x.plan(10000, what));
        }
        for (int i = 0; i < 20; i++) {
            all.add((long) x.change(i, 3, 0));
            all.add((long) x.change(i, 4, 0));
        }
        for (int b = 0; b < 8; b++) {
            all.add((long) x.log(b, AirParted.NONE));
        }
        return all;
    }

    /** The latest FINDING first, then texts and SHEETS. */
    static List<Long> inside(AirParted x) {
        List<Long> all = new ArrayList<>();
        all.add((long) x.count(9));
        // From here on the latest FINDING is the same for all, so that what get() finds can be compared.
        x.sheet(0, 0, -1);
        all.add((long) x.fault());
        for (int kind = 0; kind < 6; kind++) {
            for (int slot = 0; slot < 12; slot++) {
                all.add((long) x.rule(kind, slot, 15));
            }
        }
        for (int s = 0; s < 6; s++) {
            for (int form = 0; form < 4; form++) {
                for (int i : new int[] {0, 1, 3, 399}) {
                    all.add(x.get(s, form, i));
                    all.add((long) x.count(9));
                }
            }
            all.add((long) x.lose(s));
        }
        return all;
    }
}
