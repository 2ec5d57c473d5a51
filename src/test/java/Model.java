import java.math.BigInteger;
import java.util.ArrayList;
import java.util.List;

/**
 * The document once more, as plainly and as slowly as can be, written apart from the class:
 * rationals by BigInteger, every parting tried, texts read by an automaton of signs.
 */
final class Model {
    private static final int NONE = -1, BAD = -2, NOT = -3, FULL = -4;

    private static final class S {
        int kind, cell, strength, mast, much, goal, worth = 1, slot = 0, step = 1, row = NONE;
        boolean on = true;
    }

    private int w = 10, h = 10, tick = 0, finding = 0;
    private final int[] told = {5, 20, 10, 100, 100};
    private final long[][] sheets = new long[6][];
    private final int[] forms = new int[6];
    private final List<S> senders = new ArrayList<>();
    private final List<int[]> bids = new ArrayList<>();
    private final List<Integer> text = new ArrayList<>();
    private final List<int[]> boxes = new ArrayList<>();
    private final List<int[]> sites = new ArrayList<>();
    private final List<int[]> ears = new ArrayList<>();
    private int[][] spoken = new int[20][3];

    private static boolean in(long v, long a, long b) {
        return a <= v && v <= b;
    }

    private boolean isCell(long c) {
        return in(c, 0, w * h - 1);
    }

    private boolean isSender(int s) {
        return in(s, 0, senders.size() - 1);
    }

    // ---- the land

    public int land(int a, int b) {
        if (!in(a, 1, 20) || !in(b, 1, 20)) return BAD;
        if (!senders.isEmpty() || !boxes.isEmpty() || !sites.isEmpty() || !ears.isEmpty()) return NOT;
        w = a;
        h = b;
        return 1;
    }

    public int ground(int cell, int what) {
        if (!isCell(cell) || !in(what, 0, 1)) return BAD;
        if (sheets[what] == null || cell >= sheets[what].length) return NONE;
        long v = sheets[what][cell];
        return in(v, 0, what == 0 ? 99 : 9) ? (int) v : NONE;
    }

    public int set(int what, int v) {
        if (!in(what, 0, 4)) return BAD;
        if (what == 0 && !in(v, 0, 50)) return BAD;
        if (what == 1 && !in(v, 0, 200)) return BAD;
        if (what == 2 && !in(v, 1, 10000)) return BAD;
        if (what >= 3 && !in(v, 1, 1000000)) return BAD;
        int was = told[what];
        told[what] = v;
        return was;
    }

    public int loss(int a, int m, int b, int k, int mood) {
        if (!isCell(a) || !isCell(b) || !in(m, 0, 20) || !in(k, 0, 20) || !in(mood, 0, 1)) return BAD;
        int ax = a % w, ay = a / w, bx = b % w, by = b / w;
        int n = Math.max(Math.abs(ax - bx), Math.abs(ay - by));
        int one = (ground(a, 0) == NONE ? 0 : ground(a, 0)) + m;
        int other = (ground(b, 0) == NONE ? 0 : ground(b, 0)) + k;
        int sum = 1 + (ax - bx) * (ax - bx) + (ay - by) * (ay - by);
        for (int i = 1; i <= n - 1; i++) {
            int x = (int) Math.floor(ax + (double) (i * (bx - ax)) / n + 0.5);
            int y = (int) Math.floor(ay + (double) (i * (by - ay)) / n + 0.5);
            int c = y * w + x;
            int wood = ground(c, 1) != NONE ? ground(c, 1) : mood == 1 ? 9 : 0;
            int hill = ground(c, 0) != NONE ? ground(c, 0) : mood == 1 ? 99 : 0;
            sum += told[0] * wood;
            // The whole number e next below the amount: the line and e is not above the hill, all times n.
            int e = 0;
            while (one * n + i * (other - one) + (e + 1) * n <= hill * n) e++;
            sum += told[1] * e;
        }
        return sum;
    }

    public int pass(int n) {
        if (!in(n, 1, 1000)) return BAD;
        return tick += n;
    }

    // ---- senders

    public int sender(int kind, int cell, int strength, int mast, int much, int goal) {
        if (!in(kind, 0, 5) || !isCell(cell) || !in(strength, 1, 1000000)) return BAD;
        if (!in(mast, 0, 20) || !in(much, 1, 10000) || !isCell(goal)) return BAD;
        if (senders.size() == 20) return FULL;
        S s = new S();
        s.kind = kind;
        s.cell = cell;
        s.strength = strength;
        s.mast = mast;
        s.much = much;
        s.goal = goal;
        senders.add(s);
        return senders.size() - 1;
    }

    public int about(int i, int what) {
        if (!isSender(i) || !in(what, 0, 10)) return Integer.MIN_VALUE;
        S s = senders.get(i);
        int stands = s.cell;
        if (s.kind == 1 && s.row >= 0 && sheets[s.row] != null && tick < sheets[s.row].length && isCell(sheets[s.row][tick]))
            stands = (int) sheets[s.row][tick];
        int slot = s.kind == 2 || s.kind == 5 ? (s.slot + s.step * tick) % 12 : s.slot;
        return new int[] {s.kind, stands, s.strength, s.mast, s.much, s.goal, s.worth, slot, s.on ? 1 : 0, s.cell, s.slot}[what];
    }

    public int change(int i, int what, int v) {
        if (!isSender(i)) return BAD;
        S s = senders.get(i);
        int was = BAD;
        if (what == 0 && in(v, 1, 1000000)) {
            was = s.strength;
            s.strength = v;
        }
        if (what == 1 && in(v, 0, 1000)) {
            was = s.worth;
            s.worth = v;
        }
        if (what == 2 && in(v, 0, 11)) {
            was = s.slot;
            s.slot = v;
        }
        if (what == 3 && in(v, 0, 11) && (s.kind == 2 || s.kind == 5)) {
            was = s.step;
            s.step = v;
        }
        if (what == 4 && in(v, -1, 5) && s.kind == 1) {
            was = s.row;
            s.row = v;
        }
        return was;
    }

    public int on(int i, boolean is) {
        if (!isSender(i)) return BAD;
        if (senders.get(i).on == is) return 0;
        senders.get(i).on = is;
        return 1;
    }

    private int gotIn(int i, int cell, int mood) {
        S s = senders.get(i);
        return 100 * s.strength / loss(about(i, 1), s.mast, cell, 0, mood);
    }

    public int got(int i, int cell) {
        if (!isSender(i) || !isCell(cell)) return BAD;
        return gotIn(i, cell, senders.get(i).kind == 4 ? 1 : 0);
    }

    /** Whether i is heard, if these others, and no more, speak beside it. */
    private boolean heardWith(int i, List<Integer> others) {
        BigInteger sum = BigInteger.valueOf(told[2]);
        for (int j : others) if (j != i) sum = sum.add(BigInteger.valueOf(gotIn(j, senders.get(i).goal, 0)));
        BigInteger left = BigInteger.valueOf(got(i, senders.get(i).goal)).multiply(BigInteger.valueOf(100));
        return left.compareTo(sum.multiply(BigInteger.valueOf(senders.get(i).much))) >= 0;
    }

    private List<Integer> rivals(int i) {
        List<Integer> all = new ArrayList<>();
        for (int j = 0; j < senders.size(); j++)
            if (j != i && senders.get(j).on && about(j, 7) == about(i, 7)) all.add(j);
        return all;
    }

    public int heard(int i) {
        if (!isSender(i)) return BAD;
        if (!senders.get(i).on) return NOT;
        return heardWith(i, rivals(i)) ? 1 : 0;
    }

    public long drowns(int i) {
        if (!isSender(i)) return Long.MIN_VALUE + 2;
        if (!senders.get(i).on) return Long.MIN_VALUE + 3;
        long sum = told[2];
        for (int j : rivals(i)) sum += gotIn(j, senders.get(i).goal, 0);
        return sum;
    }

    public int cause(int i) {
        if (!isSender(i)) return BAD;
        if (!senders.get(i).on) return NOT;
        List<Integer> all = rivals(i);
        if (all.size() > 10) return FULL;
        int bits = 0;
        for (int j : all) bits |= 1 << j;
        for (int size = 0; size <= all.size(); size++)
            for (int without : subsets(bits))
                if (Integer.bitCount(without) == size && heardWith(i, asList(bits & ~without))) return without;
        return NONE;
    }

    private static List<Integer> asList(int bits) {
        List<Integer> all = new ArrayList<>();
        for (int j = 0; j < 32; j++) if ((bits >>> j & 1) == 1) all.add(j);
        return all;
    }

    /** All sets of these bits, the least first. */
    private static List<Integer> subsets(int bits) {
        List<Integer> all = new ArrayList<>();
        all.add(0);
        for (int j : asList(bits)) {
            int n = all.size();
            for (int k = 0; k < n; k++) all.add(all.get(k) | 1 << j);
        }
        return all;
    }

    // ---- parting

    private boolean badSet(int set) {
        for (int j : asList(set)) if (!isSender(j)) return true;
        return !in(Integer.bitCount(set), 1, 8);
    }

    private boolean mayShare(int set) {
        for (int j : asList(set)) if (!heardWith(j, asList(set))) return false;
        return true;
    }

    public int share(int set) {
        if (badSet(set)) return BAD;
        return mayShare(set) ? 1 : 0;
    }

    /** The slots of the members in a parting into n, the first in the order of figures; null: there is none. */
    private int[] parted(int set, int n) {
        List<Integer> all = asList(set);
        return partedFrom(all, 0, new int[n], new int[all.size()]);
    }

    private int[] partedFrom(List<Integer> all, int i, int[] slots, int[] at) {
        if (i == all.size()) return at.clone();
        for (int s = 0; s < slots.length; s++) {
            int bit = 1 << all.get(i);
            slots[s] |= bit;
            at[i] = s;
            // A set is left as soon as it may not share: no more can make it share again.
            int[] found = mayShare(slots[s]) ? partedFrom(all, i + 1, slots, at) : null;
            slots[s] &= ~bit;
            if (found != null) return found;
            if (slots[s] == 0) return null;
        }
        return null;
    }

    public int fewest(int set) {
        if (badSet(set)) return BAD;
        for (int n = 1; n <= 8; n++) if (parted(set, n) != null) return n;
        return NONE;
    }

    public int part(int set, int i) {
        if (badSet(set) || !isSender(i) || !asList(set).contains(i)) return BAD;
        if (fewest(set) == NONE) return NOT;
        return parted(set, fewest(set))[asList(set).indexOf(i)];
    }

    public int best(int set, int n) {
        if (badSet(set) || !in(n, 1, 8)) return BAD;
        int found = 0, foundWorth = 0;
        for (int size = 1; size <= 8; size++) {
            for (int some : subsets(set)) {
                if (Integer.bitCount(some) != size) continue;
                int worth = 0;
                for (int j : asList(some)) worth += senders.get(j).worth;
                if (worth > foundWorth && parted(some, n) != null) {
                    found = some;
                    foundWorth = worth;
                }
            }
        }
        return found;
    }

    public int proof(int set, int n) {
        if (badSet(set) || !in(n, 1, 8)) return BAD;
        for (int size = 1; size <= 8; size++)
            for (int some : subsets(set))
                if (Integer.bitCount(some) == size && parted(some, n) == null) return some;
        return 0;
    }

    public int assign(int set) {
        if (badSet(set)) return BAD;
        int n = fewest(set);
        if (n == NONE) return NOT;
        int[] slots = parted(set, n);
        for (int k = 0; k < slots.length; k++) senders.get(asList(set).get(k)).slot = slots[k];
        return n;
    }

    // ---- words, hops

    /** Counts all 2 to the n ways that bits are wrong, each with its weight. */
    private static int chance(int n, int from, int to, int p) {
        BigInteger sum = BigInteger.ZERO;
        for (int way = 0; way < 1 << n; way++) {
            int wrong = Integer.bitCount(way);
            if (in(wrong, from, to))
                sum = sum.add(BigInteger.valueOf(p).pow(wrong).multiply(BigInteger.valueOf(100 - p).pow(n - wrong)));
        }
        return sum.multiply(BigInteger.valueOf(1000000)).divide(BigInteger.valueOf(100).pow(n)).intValueExact();
    }

    public int odds(int n, int t, int p) {
        if (!in(n, 1, 8) || !in(t, 0, n) || !in(p, 0, 100)) return BAD;
        return chance(n, 0, t, p);
    }

    public int flow(int n, int t, int p, int m, int r) {
        if (odds(n, t, p) == BAD || !in(m, 1, 8) || !in(r, 0, m)) return BAD;
        return chance(m, r, m, odds(n, t, p) / 10000);
    }

    public int hops(int p, int a, int b, int s) {
        if (p != 2 && p != 3 && p != 5 && p != 7 && p != 11) return BAD;
        if (!in(a, 1, p - 1) || !in(b, 1, p - 1) || !in(s, 0, p - 1)) return BAD;
        int n = 0;
        for (int t = 0; t < p; t++) if (a * t * t % p == b * (t + s) * (t + s) % p) n++;
        return n;
    }

    public int most(int p, int a, int b) {
        if (hops(p, a, b, 0) == BAD) return BAD;
        int n = 0;
        for (int s = 0; s < p; s++) if (a != b || s != 0) n = Math.max(n, hops(p, a, b, s));
        return n;
    }

    // ---- listening

    private List<Integer> listeners(int slot) {
        List<Integer> all = new ArrayList<>();
        for (int j = 0; j < senders.size(); j++)
            if (senders.get(j).on && senders.get(j).kind == 3 && about(j, 7) == slot) all.add(j);
        return all;
    }

    public int listen(int slot, int seed, int ticks) {
        if (!in(slot, 0, 11) || !in(ticks, 1, 200)) return BAD;
        List<Integer> all = listeners(slot);
        if (all.isEmpty()) return NOT;
        List<List<Integer>> spoke = new ArrayList<>();
        List<Integer> before = new ArrayList<>();
        int sum = 0;
        int[][] told2 = new int[20][3];
        for (int t = 0; t < ticks; t++) {
            List<Integer> now = new ArrayList<>();
            for (int j : all) {
                seed = seed * 1103515245 + 12345;
                int draw = (int) ((seed & 0xffffffffL) / 65536 % 100);
                long there = 0;
                for (int k : before) if (k != j) there += gotIn(k, about(j, 1), 0);
                if (there < told[3] && draw < senders.get(j).worth % 100) now.add(j);
            }
            for (int j : now) if (heardWith(j, now)) told2[j][1]++;
            sum += now.size();
            spoke.add(now);
            before = now;
        }
        for (int j : all) {
            int row = 0;
            for (List<Integer> now : spoke) {
                row = now.contains(j) ? 0 : row + 1;
                if (now.contains(j)) told2[j][0]++;
                told2[j][2] = Math.max(told2[j][2], row);
            }
        }
        spoken = told2;
        return sum;
    }

    public int spoke(int i, int what) {
        return isSender(i) && in(what, 0, 2) ? spoken[i][what] : BAD;
    }

    public int hidden(int slot) {
        if (!in(slot, 0, 11)) return BAD;
        int n = 0;
        for (int i : listeners(slot)) {
            for (int j : listeners(slot)) {
                if (i >= j || gotIn(i, about(j, 1), 0) >= told[3] || gotIn(j, about(i, 1), 0) >= told[3]) continue;
                boolean one = heardWith(i, List.of()) && !heardWith(i, List.of(j));
                boolean two = heardWith(j, List.of()) && !heardWith(j, List.of(i));
                if (one || two) n++;
            }
        }
        return n;
    }

    // ---- hours

    public int bid(int i, int hours, int price) {
        if (!isSender(i) || !in(hours, 1, 4095) || !in(price, 1, 10000)) return BAD;
        if (bids.size() == 8) return FULL;
        bids.add(new int[] {hours, price});
        return bids.size() - 1;
    }

    public int call() {
        int n = bids.size();
        bids.clear();
        return n;
    }

    private int priceOf(int some) {
        int sum = 0;
        for (int j : asList(some)) sum += bids.get(j)[1];
        return sum;
    }

    private int wonOf(int allowed) {
        int found = 0;
        for (int size = 1; size <= 8; size++) {
            next:
            for (int some : subsets(allowed)) {
                if (Integer.bitCount(some) != size || priceOf(some) <= priceOf(found)) continue;
                for (int a : asList(some)) for (int b : asList(some)) if (a != b && (bids.get(a)[0] & bids.get(b)[0]) != 0) continue next;
                found = some;
            }
        }
        return found;
    }

    public int won() {
        return wonOf((1 << bids.size()) - 1);
    }

    public int pays(int i) {
        if (!in(i, 0, bids.size() - 1)) return BAD;
        if ((won() >> i & 1) == 0) return 0;
        int others = (1 << bids.size()) - 1 & ~(1 << i);
        return priceOf(wonOf(others)) - priceOf(won() & ~(1 << i));
    }

    // ---- texts

    public int type(int b) {
        if (!in(b, 0, 255)) return BAD;
        if (text.size() == 120) return FULL;
        text.add(b);
        return text.size();
    }

    public int wipe() {
        int n = text.size();
        text.clear();
        return n;
    }

    private static final String[] SIGNS = {"+-", "012345*", ":", "0123456789", "0123456789-@;", "-@;", "0123456789",
        "0123456789@;", "@;", "0123456789", "0123456789-;", "-;", "0123456789", "0123456789;", ";"};

    /** The state behind a sign; states 3, 6, 9, 12 await a number's first figure. */
    private static int behind(int state, char c) {
        if (c == ';') return 0;
        if (c == '@') return 9;
        if (state < 3) return state + 1;
        if (c == '-') return state < 9 ? 6 : 12;
        return state + 1;
    }

    /** Rules as sign, kind, slots, days; null and the fault in where[0] if it cannot be read. */
    private List<int[]> read(int[] where) {
        int state = 0;
        int[] first = new int[13];
        int fault = -1;
        List<int[]> all = new ArrayList<>();
        int[] now = null;
        for (int i = 0; i <= text.size(); i++) {
            boolean end = i == text.size();
            char c = end ? ';' : (char) (int) text.get(i);
            boolean figure = c >= '0' && c <= '9';
            boolean second = figure && (state == 4 || state == 7 || state == 10 || state == 13);
            if (!second && state > 3) {
                // A number just ended, at the latest now: it is looked at ahead of this sign.
                int k = (state - 4) / 3;
                if (state == 4 || state == 5 || state == 7 || state == 8 || state == 10 || state == 11 || state == 13 || state == 14) {
                    boolean wrong = now[2 + k] > (k < 2 ? 11 : 99) || k % 2 == 1 && now[2 + k] < now[1 + k];
                    if (wrong) {
                        fault = first[k];
                        break;
                    }
                }
            }
            if (SIGNS[state].indexOf(c) < 0) {
                fault = i;
                break;
            }
            if (state == 0) now = new int[] {c, 0, 0, NONE, NONE, NONE};
            if (state == 1) now[1] = c;
            if (state == 3 || state == 6 || state == 9 || state == 12) {
                now[2 + (state - 3) / 3] = c - '0';
                first[(state - 3) / 3] = i;
            }
            if (second) now[2 + (state - 4) / 3] = now[2 + (state - 4) / 3] * 10 + c - '0';
            state = behind(state, c);
            if (c == ';') {
                if (now[3] == NONE) now[3] = now[2];
                if (now[5] == NONE) now[5] = now[4] == NONE ? 99 : now[4];
                if (now[4] == NONE) now[4] = 0;
                all.add(now);
            }
        }
        where[0] = fault;
        return fault >= 0 ? null : all;
    }

    public int fault() {
        int[] where = new int[1];
        read(where);
        return where[0];
    }

    public int rule(int kind, int slot, int day) {
        if (!in(kind, 0, 5) || !in(slot, 0, 11) || !in(day, 0, 99)) return BAD;
        List<int[]> all = read(new int[1]);
        int last = NONE;
        for (int r = 0; all != null && r < all.size(); r++) {
            int[] now = all.get(r);
            if ((now[1] == '*' || now[1] - '0' == kind) && in(slot, now[2], now[3]) && in(day, now[4], now[5])) last = r;
        }
        return last;
    }

    public int may(int kind, int slot, int day) {
        int r = rule(kind, slot, day);
        if (r == BAD) return BAD;
        return r != NONE && read(new int[1]).get(r)[0] == '+' ? 1 : 0;
    }

    // ---- watching

    public int box(int cell) {
        if (!isCell(cell)) return BAD;
        if (boxes.size() == 8) return FULL;
        boxes.add(new int[] {cell, NONE});
        return boxes.size() - 1;
    }

    public int log(int i, int v) {
        if (!in(i, 0, boxes.size() - 1) || v != NONE && !in(v, 0, 100000000)) return -3;
        int was = boxes.get(i)[1];
        boxes.get(i)[1] = v;
        return was;
    }

    public int hear(int i) {
        if (!isSender(i)) return BAD;
        for (int[] b : boxes) b[1] = gotIn(i, b[0], 0);
        return boxes.size();
    }

    private List<Integer> agreeing(int strength, int slack) {
        List<Integer> all = new ArrayList<>();
        for (int c = 0; c < w * h; c++) {
            boolean is = true;
            for (int[] b : boxes) {
                long would = 100L * strength / loss(c, 0, b[0], 0, 0);
                if (b[1] != NONE && 100L * Math.abs(b[1] - would) > slack * (would + 100)) is = false;
            }
            if (is) all.add(c);
        }
        return all;
    }

    public int cells(int strength, int slack) {
        if (!in(strength, 1, 1000000) || !in(slack, 0, 100)) return BAD;
        return agreeing(strength, slack).size();
    }

    public int cell(int strength, int slack, int i) {
        if (!in(strength, 1, 1000000) || !in(slack, 0, 100) || i < 0) return BAD;
        List<Integer> all = agreeing(strength, slack);
        return i < all.size() ? all.get(i) : NONE;
    }

    public int cheats(int i, int far, int slack) {
        if (!isSender(i) || !in(far, 0, 30) || !in(slack, 0, 100)) return BAD;
        if (count(5) == 0) return NOT;
        int x = about(i, 1) % w, y = about(i, 1) / w;
        for (int c : agreeing(senders.get(i).strength, slack))
            if ((c % w - x) * (c % w - x) + (c / w - y) * (c / w - y) <= far * far) return 0;
        return 1;
    }

    // ---- plans

    public int site(int cell, int mast, int first, int second, int price, int other) {
        if (!isCell(cell) || !in(mast, 0, 20) || !in(first, 1, 1000000) || !in(second, 1, 1000000)) return BAD;
        if (!in(price, 1, 1000) || !in(other, 1, 1000) || first >= second || price > other) return BAD;
        if (sites.size() == 6) return FULL;
        sites.add(new int[] {cell, mast, 0, first, second, 0, price, other});
        return sites.size() - 1;
    }

    public int ear(int cell, int worth) {
        if (!isCell(cell) || !in(worth, 1, 100)) return BAD;
        if (ears.size() == 12) return FULL;
        ears.add(new int[] {cell, worth});
        return ears.size() - 1;
    }

    private int figure(int plan, int s) {
        for (int k = 0; k < s; k++) plan /= 3;
        return plan % 3;
    }

    private int plans() {
        return (int) Math.round(Math.pow(3, sites.size()));
    }

    public int serves(int plan) {
        if (!in(plan, 0, plans() - 1)) return BAD;
        int sum = 0;
        for (int[] e : ears) {
            boolean served = false;
            // Served by the greatest is served by some: the greatest has the least against it.
            for (int s = 0; s < sites.size(); s++) {
                long mine = 0, rest = told[2];
                for (int t = 0; t < sites.size(); t++) {
                    int[] at = sites.get(t);
                    long there = 100L * at[2 + figure(plan, t)] / loss(at[0], at[1], e[0], 0, 0);
                    if (s == t) mine = there;
                    else rest += there;
                }
                served |= 100 * mine >= told[4] * rest;
            }
            if (served) sum += e[1];
        }
        return sum;
    }

    public int plan(int price, int what) {
        if (!in(price, 0, 10000) || !in(what, 0, 2)) return BAD;
        int[] found = {0, 0, 0};
        for (int p = plans() - 1; p >= 0; p--) {
            int costs = 0;
            for (int s = 0; s < sites.size(); s++) costs += sites.get(s)[5 + figure(p, s)];
            if (costs > price) continue;
            int worth = serves(p);
            if (worth > found[1] || worth == found[1] && costs <= found[2]) found = new int[] {p, worth, costs};
        }
        return found[what];
    }

    // ---- sheets

    private int find(int n) {
        finding = n;
        return -10 - n;
    }

    private static long cut(int form, long v) {
        int bits = 8 << form;
        return v << 64 - bits >> 64 - bits;
    }

    public int sheet(int s, int form, int n) {
        if (!in(s, 0, 5) || !in(form, 0, 3) || n > 400) return BAD;
        if (n < 0) return find(5);
        sheets[s] = new long[n];
        forms[s] = form;
        return n;
    }

    public int lose(int s) {
        if (!in(s, 0, 5)) return BAD;
        if (sheets[s] == null) return find(1);
        int n = sheets[s].length;
        sheets[s] = null;
        return n;
    }

    private int itemRefusal(int s, int form, int i) {
        if (!in(s, 0, 5) || !in(form, 0, 3)) return BAD;
        if (sheets[s] == null) return find(1);
        if (forms[s] != form) return find(3);
        if (!in(i, 0, sheets[s].length - 1)) return find(2);
        return 1;
    }

    public int put(int s, int form, int i, long v) {
        int answer = itemRefusal(s, form, i);
        if (answer == 1) sheets[s][i] = cut(form, v);
        return answer;
    }

    public long get(int s, int form, int i) {
        return itemRefusal(s, form, i) == 1 ? sheets[s][i] : Long.MIN_VALUE;
    }

    public int copy(int s, int i, int t, int j, int n) {
        if (!in(s, 0, 5) || !in(t, 0, 5)) return BAD;
        if (sheets[s] == null || sheets[t] == null) return find(1);
        if (forms[s] != forms[t]) return find(4);
        if (i < 0 || j < 0 || n < 0 || (long) i + n > sheets[s].length || (long) j + n > sheets[t].length) return find(2);
        long[] were = sheets[s].clone();
        for (int k = 0; k < n; k++) sheets[t][j + k] = were[i + k];
        return 1;
    }

    public int map(int i, int s) {
        if (!isSender(i) || !in(s, 0, 5)) return BAD;
        if (sheets[s] == null) return find(1);
        int n = Math.min(w * h, sheets[s].length);
        long[] row = sheets[s].clone();
        for (int c = 0; c < n; c++) row[c] = cut(forms[s], gotIn(i, c, 0));
        sheets[s] = row;
        return n;
    }

    public int count(int what) {
        if (!in(what, 0, 11)) return BAD;
        int on = 0, whole = 0;
        for (S s : senders) if (s.on) on++;
        for (int[] b : boxes) if (b[1] != NONE) whole++;
        return new int[] {senders.size(), on, bids.size(), text.size(), boxes.size(), whole, sites.size(), ears.size(),
            tick, finding, w, h}[what];
    }

    public long digest() {
        List<Integer> all = new ArrayList<>();
        for (int what : new int[] {0, 1, 2, 3, 4, 5, 6, 7, 8, 10, 11}) all.add(count(what));
        for (int v : told) all.add(v);
        for (int i = 0; i < senders.size(); i++) {
            for (int what = 0; what <= 10; what++) all.add(about(i, what));
            all.add(heard(i));
        }
        all.add(won());
        all.add(plan(500, 0));
        all.add(plan(500, 1));
        long sum = 17;
        for (int v : all) sum = 31 * sum + v;
        return sum;
    }
}
