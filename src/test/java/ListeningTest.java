/** Promises 25 to 27: listen, spoke, hidden. */
public final class ListeningTest {
    public static void main(String[] args) {
        wrong();
        drawsOfOne();
        onesThatHear();
        clear();
        latestListen();
        hidden();
        hiddenEdges();
        Check.end();
    }

    private static void wrong() {
        AirParted x = new AirParted();
        x.sender(3, 0, 1, 0, 1, 0);
        int[][] bad = {{-1, 0, 1}, {12, 0, 1}, {0, 0, 0}, {0, 0, 201}, {0, 0, -1}, {12, 0, 0}};
        for (int[] b : bad) {
            Check.due("25: wrong listen", x.listen(b[0], b[1], b[2]), AirParted.BAD);
        }
        Check.due("25: none in the slot", x.listen(1, 0, 1), AirParted.NOT);
        Check.due("25: wrong ahead of none", x.listen(1, 0, 0), AirParted.BAD);
        x.on(0, false);
        Check.due("25: off", x.listen(0, 0, 1), AirParted.NOT);
        x.sender(0, 0, 1, 0, 1, 0);
        Check.due("25: another kind", x.listen(0, 0, 1), AirParted.NOT);
        Check.due("26: sender 2", x.spoke(2, 0), AirParted.BAD);
        Check.due("26: sender -1", x.spoke(-1, 0), AirParted.BAD);
        Check.due("26: what 3", x.spoke(0, 3), AirParted.BAD);
        Check.due("26: what -1", x.spoke(0, -1), AirParted.BAD);
        for (int what = 0; what < 3; what++) {
            Check.due("26: before any", x.spoke(0, what), 0);
        }
        Check.due("27: slot -1", x.hidden(-1), AirParted.BAD);
        Check.due("27: slot 12", x.hidden(12), AirParted.BAD);
        Check.due("27: none", x.hidden(11), 0);
    }

    private static int next(int seed) {
        return seed * 1103515245 + 12345;
    }

    private static void drawsOfOne() {
        for (int seed : new int[] {0, 1, 7, -1, Integer.MIN_VALUE, Integer.MAX_VALUE, 123456789}) {
            for (int worth : new int[] {0, 1, 50, 99, 100, 150, 1000}) {
                AirParted x = new AirParted();
                x.sender(3, 0, 1000, 0, 100, 0);
                x.change(0, 1, worth);
                int drawn = seed, times = 0, quiet = 0, longest = 0;
                for (int t = 0; t < 200; t++) {
                    drawn = next(drawn);
                    boolean speaks = (drawn >>> 16) % 100 < worth % 100;
                    times += speaks ? 1 : 0;
                    quiet = speaks ? 0 : quiet + 1;
                    longest = Math.max(longest, quiet);
                }
                Check.due("25: one alone from " + seed + ", worth " + worth, x.listen(0, seed, 200), times);
                Check.due("26: how often", x.spoke(0, 0), times);
                Check.due("26: how often clear", x.spoke(0, 1), times);
                Check.due("26: the longest row", x.spoke(0, 2), longest);
            }
        }
    }

    /** Two that hear each other: after a tick in which one spoke the other is still. */
    private static void onesThatHear() {
        AirParted x = new AirParted();
        // On neighbours each gets 100 times 2 by 2 of the other: just EAR.
        x.sender(3, 0, 2, 0, 10000, 0);
        x.sender(3, 1, 2, 0, 10000, 1);
        x.change(0, 1, 70);
        x.change(1, 1, 70);
        for (int ear = 100; ear <= 101; ear++) {
            x.set(3, ear);
            int drawn = 5;
            boolean a = false, b = false;
            int sum = 0;
            for (int t = 0; t < 60; t++) {
                drawn = next(drawn);
                boolean nextA = (drawn >>> 16) % 100 < 70 && !(b && ear == 100);
                drawn = next(drawn);
                boolean nextB = (drawn >>> 16) % 100 < 70 && !(a && ear == 100);
                a = nextA;
                b = nextB;
                sum += (a ? 1 : 0) + (b ? 1 : 0);
            }
            Check.due("25: two with EAR " + ear, x.listen(0, 5, 60), sum);
            Check.due("26: never clear", x.spoke(0, 1) + x.spoke(1, 1), 0);
        }
    }

    /** Two that do not hear each other, and are clear only where the other is still. */
    private static void clear() {
        AirParted x = new AirParted();
        x.set(3, 1000000);
        // Alone 1000 by MUCH 1 against noise 10; with the other as strong on the same cell 1000 is below 1010.
        x.sender(3, 0, 10, 0, 100, 0);
        x.sender(3, 0, 10, 0, 100, 0);
        // One of another kind, one that is off and one in another slot do not count.
        x.sender(0, 0, 1000000, 0, 100, 0);
        x.sender(3, 0, 1000000, 0, 100, 0);
        x.on(3, false);
        x.sender(3, 0, 1000000, 0, 100, 0);
        x.change(4, 2, 1);
        x.change(0, 1, 60);
        x.change(1, 1, 30);
        int drawn = 99, both = 0, one = 0, two = 0;
        for (int t = 0; t < 100; t++) {
            drawn = next(drawn);
            boolean a = (drawn >>> 16) % 100 < 60;
            drawn = next(drawn);
            boolean b = (drawn >>> 16) % 100 < 30;
            both += a && b ? 1 : 0;
            one += a ? 1 : 0;
            two += b ? 1 : 0;
        }
        Check.due("25: both", x.listen(0, 99, 100), one + two);
        Check.due("26: the first", x.spoke(0, 0), one);
        Check.due("26: the first clear", x.spoke(0, 1), one - both);
        Check.due("26: the second clear", x.spoke(1, 1), two - both);
        Check.holds("26: some were not clear", both > 0 && one > both && two > both);
        for (int i = 2; i < 5; i++) {
            for (int what = 0; what < 3; what++) {
                Check.due("26: of others", x.spoke(i, what), 0);
            }
        }
    }

    private static void latestListen() {
        AirParted x = new AirParted();
        x.sender(3, 0, 10, 0, 100, 0);
        x.sender(3, 50, 10, 0, 100, 50);
        x.change(0, 1, 99);
        x.change(1, 1, 99);
        x.change(1, 2, 3);
        x.listen(0, 1, 40);
        int spoke = x.spoke(0, 0);
        Check.holds("26: it spoke", spoke > 0);
        x.listen(5, 1, 40);
        x.listen(0, 1, 0);
        Check.due("26: refused ones do not count", x.spoke(0, 0), spoke);
        x.listen(3, 1, 40);
        Check.due("26: the latest alone", x.spoke(0, 0), 0);
        Check.due("26: the latest", x.spoke(1, 0), spoke);
        x.sender(0, 0, 1, 0, 1, 0);
        Check.due("26: a new one", x.spoke(2, 0), 0);
    }

    private static AirParted pair(int strength, int other) {
        AirParted x = new AirParted();
        x.land(11, 1);
        x.sender(3, 0, strength, 0, 500, 5);
        x.sender(3, 10, other, 0, 500, 5);
        return x;
    }

    private static void hidden() {
        // 10 off: 100 times 50 by 101 is 49, below EAR; at the goal 5 off 192 each: alone enough, together not.
        AirParted x = pair(50, 50);
        Check.due("27: both hidden is one pair", x.hidden(0), 1);
        Check.due("27: another slot", x.hidden(1), 0);
        x.on(1, false);
        Check.due("27: one is off", x.hidden(0), 0);
        x.on(1, true);
        x.change(1, 2, 1);
        Check.due("27: in two slots", x.hidden(0), 0);
        x.change(1, 2, 0);
        x.sender(3, 10, 50, 0, 500, 5);
        // The third stands on the cell of the second: they hear each other.
        Check.due("27: two pairs of three", x.hidden(0), 2);
        x.set(3, 1000000);
        Check.due("27: none hears any", x.hidden(0), 3);
        Check.due("27: of another kind", other(), 0);
    }

    private static int other() {
        AirParted x = new AirParted();
        x.land(11, 1);
        x.sender(3, 0, 50, 0, 500, 5);
        x.sender(0, 10, 50, 0, 500, 5);
        return x.hidden(0);
    }

    private static void hiddenEdges() {
        AirParted x = pair(101, 50);
        // The second gets 100 of the first: EAR, so it hears it.
        Check.due("27: one hears the other", x.hidden(0), 0);
        x.set(3, 101);
        Check.due("27: neither hears the other", x.hidden(0), 1);
        AirParted z = pair(50, 101);
        Check.due("27: the other hears the one", z.hidden(0), 0);
        z.set(3, 101);
        Check.due("27: neither hears", z.hidden(0), 1);
        // 192 at the goal: 19200 is 50 times 384, so alone just enough with NOISE 384 and MUCH 50.
        AirParted e = new AirParted();
        e.land(11, 1);
        e.set(2, 384);
        e.sender(3, 0, 50, 0, 50, 5);
        e.sender(3, 10, 50, 0, 50, 5);
        Check.due("27: just heard alone", e.hidden(0), 1);
        e.set(2, 385);
        Check.due("27: not just heard alone", e.hidden(0), 0);
        AirParted y = pair(100, 9);
        // 384 and 34 at the goals: the weak one is not heard even alone; the first against 44 is heard.
        Check.due("27: not heard even alone", y.hidden(0), 0);
        y.change(1, 0, 27);
        // 103 of the second: heard alone, not with 384; the first against 113 is not heard either.
        Check.due("27: heard alone, not with the other", y.hidden(0), 1);
        y.change(1, 0, 17);
        // 65 of the second: 6500 >= 5000 alone; against 394 not; the first: 38400 >= 500 * 75 is heard still.
        Check.due("27: one of both is enough", y.hidden(0), 1);
    }
}
