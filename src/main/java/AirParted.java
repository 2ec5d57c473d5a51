import java.util.Arrays;

/** One band over a land: senders, their slots and words, bids, texts, boxes and towers. */
public final class AirParted {
    public static final int NONE = -1, BAD = -2, NOT = -3, FULL = -4;

    private static final int LEAST_INT = 1 << 31;
    private static final long LEAST_LONG = 1L << 63;
    private static final int NULL = 1, INDEX = 2, CAST = 3, STORE = 4, SIZE = 5;
    private static final int SHEETS = 6;
    private static final int KINDS = 6;
    private static final int SLOTS = 12;
    private static final int MOST_STRENGTH = 1000000;
    private static final int MOST_MAST = 20;
    private static final int DIGEST_PRICE = 500;
    private static final int LATEST_FINDING = 9;
    private static final int COUNTS = 12;

    private final Told told;
    private final Sheet[] sheets;
    private final Land ground;
    private final Air air;
    private final Parting parting;
    private final Listening listening;
    private final Auction auction;
    private final Texts texts;
    private final Watch watch;
    private final Towers towers;
    private final long[] mapped;
    private int finding;

    public AirParted() {
        told = new Told();
        sheets = new Sheet[SHEETS];
        for (int s = 0; s < SHEETS; s++) {
            sheets[s] = new Sheet();
        }
        ground = new Land(told, sheets[0], sheets[1]);
        air = new Air(told, ground, sheets);
        parting = new Parting(told, air);
        listening = new Listening(told, air);
        auction = new Auction();
        texts = new Texts();
        watch = new Watch(ground);
        towers = new Towers(told, ground);
        mapped = new long[Sheet.MOST_ITEMS];
    }

    // ---- the land

    public int land(int w, int h) {
        if (!within(w, 1, Land.MOST_SIDE) || !within(h, 1, Land.MOST_SIDE)) {
            return BAD;
        }
        if (air.total > 0 || watch.total > 0 || towers.sites > 0 || towers.ears > 0) {
            return NOT;
        }
        ground.width = w;
        ground.height = h;
        return 1;
    }

    public int ground(int cell, int what) {
        if (!ground.isCell(cell) || !within(what, 0, 1)) {
            return BAD;
        }
        return what == 0 ? ground.hillOf(cell) : ground.woodOf(cell);
    }

    public int set(int what, int v) {
        if (!within(what, 0, Told.ALL - 1) || !within(v, Told.LEAST[what], Told.GREATEST[what])) {
            return BAD;
        }
        int was = told.value[what];
        told.value[what] = v;
        return was;
    }

    public int loss(int a, int m, int b, int k, int mood) {
        if (!ground.isCell(a) || !ground.isCell(b) || !within(mood, 0, 1)) {
            return BAD;
        }
        if (!within(m, 0, MOST_MAST) || !within(k, 0, MOST_MAST)) {
            return BAD;
        }
        return ground.lossBetween(a, m, b, k, mood);
    }

    public int pass(int n) {
        if (!within(n, 1, 1000)) {
            return BAD;
        }
        air.tick += n;
        return air.tick;
    }

    // ---- senders

    public int sender(int kind, int cell, int strength, int mast, int much, int goal) {
        if (!within(kind, 0, KINDS - 1) || !ground.isCell(cell) || !ground.isCell(goal)) {
            return BAD;
        }
        if (!within(strength, 1, MOST_STRENGTH) || !within(mast, 0, MOST_MAST) || !within(much, 1, 10000)) {
            return BAD;
        }
        if (air.total >= Air.MOST) {
            return FULL;
        }
        Sender s = air.all[air.total];
        s.kind = kind;
        s.home = cell;
        s.strength = strength;
        s.mast = mast;
        s.much = much;
        s.goal = goal;
        air.total++;
        return air.total - 1;
    }

    public int about(int sender, int what) {
        return air.has(sender) ? air.tell(sender, what) : LEAST_INT;
    }

    public int change(int sender, int what, int v) {
        return air.has(sender) ? air.all[sender].replace(what, v) : BAD;
    }

    public int on(int sender, boolean is) {
        if (!air.has(sender)) {
            return BAD;
        }
        boolean was = air.all[sender].on;
        air.all[sender].on = is;
        return was == is ? 0 : 1;
    }

    public int got(int sender, int cell) {
        if (!air.has(sender) || !ground.isCell(cell)) {
            return BAD;
        }
        return air.gotAt(sender, cell, air.all[sender].ownMood());
    }

    public int heard(int sender) {
        int refusal = refusalUnlessOn(sender);
        if (refusal != 0) {
            return refusal;
        }
        return air.isHeard(sender) ? 1 : 0;
    }

    public long drowns(int sender) {
        int refusal = refusalUnlessOn(sender);
        if (refusal != 0) {
            return LEAST_LONG - refusal;
        }
        air.gatherRivals(sender);
        return air.againstWithout(0);
    }

    public int cause(int sender) {
        int refusal = refusalUnlessOn(sender);
        if (refusal != 0) {
            return refusal;
        }
        return air.gatherRivals(sender) > Air.MOST_RIVALS ? FULL : air.causeOf(sender);
    }

    // ---- parting

    public int share(int set) {
        if (!parting.isSet(set)) {
            return BAD;
        }
        parting.prepare(set);
        return parting.together[parting.whole()] ? 1 : 0;
    }

    public int fewest(int set) {
        if (!parting.isSet(set)) {
            return BAD;
        }
        parting.prepare(set);
        return parting.fewestSlots();
    }

    public int part(int set, int sender) {
        if (!parting.isSet(set) || !air.has(sender) || (set >> sender & 1) == 0) {
            return BAD;
        }
        parting.prepare(set);
        if (!parting.divide()) {
            return NOT;
        }
        return parting.slotOf[Integer.bitCount(set & (1 << sender) - 1)];
    }

    public int best(int set, int n) {
        if (!parting.isSet(set) || !within(n, 1, Parting.MOST)) {
            return BAD;
        }
        parting.prepare(set);
        return parting.mostWorth(n);
    }

    public int proof(int set, int n) {
        if (!parting.isSet(set) || !within(n, 1, Parting.MOST)) {
            return BAD;
        }
        parting.prepare(set);
        return parting.leastThatCannot(n);
    }

    public int assign(int set) {
        if (!parting.isSet(set)) {
            return BAD;
        }
        parting.prepare(set);
        if (!parting.divide()) {
            return NOT;
        }
        for (int i = 0; i < parting.total; i++) {
            air.all[parting.member[i]].slot = parting.slotOf[i];
        }
        return parting.fewestSlots();
    }

    // ---- words, hops

    public int odds(int n, int t, int p) {
        if (!within(n, 1, 8) || !within(t, 0, n) || !within(p, 0, 100)) {
            return BAD;
        }
        return chanceOfAtMost(t, n, p);
    }

    public int flow(int n, int t, int p, int m, int r) {
        if (!within(n, 1, 8) || !within(t, 0, n) || !within(p, 0, 100)) {
            return BAD;
        }
        if (!within(m, 1, 8) || !within(r, 0, m)) {
            return BAD;
        }
        int unread = 100 - chanceOfAtMost(t, n, p) / 10000;
        return chanceOfAtMost(m - r, m, unread);
    }

    public int hops(int p, int a, int b, int s) {
        if (!areRows(p, a, b) || !within(s, 0, p - 1)) {
            return BAD;
        }
        return meetings(p, a, b, s);
    }

    public int most(int p, int a, int b) {
        if (!areRows(p, a, b)) {
            return BAD;
        }
        int greatest = 0;
        for (int s = a == b ? 1 : 0; s < p; s++) {
            greatest = Math.max(greatest, meetings(p, a, b, s));
        }
        return greatest;
    }

    // ---- listening

    public int listen(int slot, int seed, int ticks) {
        if (!within(slot, 0, SLOTS - 1) || !within(ticks, 1, 200)) {
            return BAD;
        }
        listening.gather(slot);
        return listening.total == 0 ? NOT : listening.run(seed, ticks);
    }

    public int spoke(int sender, int what) {
        if (!air.has(sender) || !within(what, 0, 2)) {
            return BAD;
        }
        if (what == 0) {
            return listening.times[sender];
        }
        return what == 1 ? listening.clear[sender] : listening.longest[sender];
    }

    public int hidden(int slot) {
        if (!within(slot, 0, SLOTS - 1)) {
            return BAD;
        }
        listening.gather(slot);
        return listening.hiddenPairs();
    }

    // ---- hours

    public int bid(int sender, int hours, int price) {
        if (!air.has(sender) || !within(hours, 1, Auction.ALL_HOURS) || !within(price, 1, 10000)) {
            return BAD;
        }
        return auction.total >= Auction.MOST ? FULL : auction.add(hours, price);
    }

    public int call() {
        int had = auction.total;
        auction.total = 0;
        return had;
    }

    public int won() {
        return auction.winners(0);
    }

    public int pays(int bid) {
        return within(bid, 0, auction.total - 1) ? auction.dueOf(bid) : BAD;
    }

    // ---- texts

    public int type(int b) {
        if (!within(b, 0, 255)) {
            return BAD;
        }
        return texts.length >= Texts.MOST ? FULL : texts.append(b);
    }

    public int wipe() {
        int had = texts.length;
        texts.length = 0;
        return had;
    }

    public int fault() {
        texts.read();
        return texts.faultAt;
    }

    public int may(int kind, int slot, int day) {
        if (!isAsked(kind, slot, day)) {
            return BAD;
        }
        int last = texts.lastNaming(kind, slot, day);
        return last != NONE && texts.allows[last] ? 1 : 0;
    }

    public int rule(int kind, int slot, int day) {
        return isAsked(kind, slot, day) ? texts.lastNaming(kind, slot, day) : BAD;
    }

    // ---- watching

    public int box(int cell) {
        if (!ground.isCell(cell)) {
            return BAD;
        }
        return watch.total >= Watch.MOST ? FULL : watch.add(cell);
    }

    public int log(int box, int got) {
        if (!within(box, 0, watch.total - 1) || !within(got, NONE, Watch.MOST_GOT)) {
            // BAD is told as -3 by this one act.
            return -3;
        }
        int was = watch.entry[box];
        watch.entry[box] = got;
        return was;
    }

    public int hear(int sender) {
        if (!air.has(sender)) {
            return BAD;
        }
        for (int b = 0; b < watch.total; b++) {
            watch.entry[b] = air.gotAt(sender, watch.place[b], 0);
        }
        return watch.total;
    }

    public int cells(int strength, int slack) {
        if (!within(strength, 1, MOST_STRENGTH) || !within(slack, 0, 100)) {
            return BAD;
        }
        int agreeing = 0;
        for (int c = 0; c < ground.size(); c++) {
            if (watch.agrees(c, strength, slack)) {
                agreeing++;
            }
        }
        return agreeing;
    }

    public int cell(int strength, int slack, int i) {
        if (!within(strength, 1, MOST_STRENGTH) || !within(slack, 0, 100) || i < 0) {
            return BAD;
        }
        int ahead = 0;
        for (int c = 0; c < ground.size() && i < ground.size(); c++) {
            if (watch.agrees(c, strength, slack)) {
                if (ahead == i) {
                    return c;
                }
                ahead++;
            }
        }
        return NONE;
    }

    public int cheats(int sender, int far, int slack) {
        if (!air.has(sender) || !within(far, 0, 30) || !within(slack, 0, 100)) {
            return BAD;
        }
        if (watch.readable() == 0) {
            return NOT;
        }
        int stands = air.cellOf(sender);
        int strength = air.all[sender].strength;
        for (int c = 0; c < ground.size(); c++) {
            if (ground.squaredWay(c, stands) <= far * far && watch.agrees(c, strength, slack)) {
                return 0;
            }
        }
        return 1;
    }

    // ---- plans

    public int site(int cell, int mast, int first, int second, int price, int other) {
        if (!ground.isCell(cell) || !within(mast, 0, MOST_MAST)) {
            return BAD;
        }
        if (!within(first, 1, MOST_STRENGTH) || !within(second, 1, MOST_STRENGTH) || first >= second) {
            return BAD;
        }
        if (!within(price, 1, 1000) || !within(other, 1, 1000) || price > other) {
            return BAD;
        }
        if (towers.sites >= Towers.MOST_SITES) {
            return FULL;
        }
        return towers.addSite(cell, mast, first, second, price, other);
    }

    public int ear(int cell, int worth) {
        if (!ground.isCell(cell) || !within(worth, 1, 100)) {
            return BAD;
        }
        return towers.ears >= Towers.MOST_EARS ? FULL : towers.addEar(cell, worth);
    }

    public int serves(int plan) {
        if (!within(plan, 0, towers.plans() - 1)) {
            return BAD;
        }
        towers.measure();
        return towers.worthOf(plan);
    }

    public int plan(int price, int what) {
        if (!within(price, 0, 10000) || !within(what, 0, 2)) {
            return BAD;
        }
        towers.choose(price);
        if (what == 0) {
            return towers.chosen;
        }
        return what == 1 ? towers.chosenWorth : towers.chosenPrice;
    }

    // ---- sheets

    public int sheet(int s, int form, int n) {
        if (!isSheet(s) || !isForm(form) || n > Sheet.MOST_ITEMS) {
            return BAD;
        }
        if (n < 0) {
            return found(SIZE);
        }
        sheets[s].renew(form, n);
        return n;
    }

    public int lose(int s) {
        if (!isSheet(s)) {
            return BAD;
        }
        if (sheets[s].lost) {
            return found(NULL);
        }
        sheets[s].lost = true;
        return sheets[s].size;
    }

    public int put(int s, int form, int i, long v) {
        if (!isSheet(s) || !isForm(form)) {
            return BAD;
        }
        int wrong = wrongItem(sheets[s], form, i);
        if (wrong != 0) {
            return found(wrong);
        }
        sheets[s].store(i, v);
        return 1;
    }

    public long get(int s, int form, int i) {
        if (!isSheet(s) || !isForm(form)) {
            return LEAST_LONG;
        }
        int wrong = wrongItem(sheets[s], form, i);
        if (wrong != 0) {
            finding = wrong;
            return LEAST_LONG;
        }
        return sheets[s].item[i];
    }

    public int copy(int s, int i, int t, int j, int n) {
        if (!isSheet(s) || !isSheet(t)) {
            return BAD;
        }
        Sheet from = sheets[s];
        Sheet to = sheets[t];
        if (from.lost || to.lost) {
            return found(NULL);
        }
        if (from.form != to.form) {
            return found(STORE);
        }
        if (!from.holds(i, n) || !to.holds(j, n)) {
            return found(INDEX);
        }
        System.arraycopy(from.item, i, to.item, j, n);
        return 1;
    }

    public int map(int sender, int s) {
        if (!air.has(sender) || !isSheet(s)) {
            return BAD;
        }
        Sheet to = sheets[s];
        if (to.lost) {
            return found(NULL);
        }
        int n = Math.min(to.size, ground.size());
        // The sheet may itself hold the hills, the woods or the sender's row: all is reckoned before any is put.
        for (int c = 0; c < n; c++) {
            mapped[c] = air.gotAt(sender, c, 0);
        }
        for (int c = 0; c < n; c++) {
            to.store(c, mapped[c]);
        }
        return n;
    }

    public int count(int what) {
        switch (what) {
            case 0: return air.total;
            case 1: return air.totalOn();
            case 2: return auction.total;
            case 3: return texts.length;
            case 4: return watch.total;
            case 5: return watch.readable();
            case 6: return towers.sites;
            case 7: return towers.ears;
            case 8: return air.tick;
            case LATEST_FINDING: return finding;
            case 10: return ground.width;
            case 11: return ground.height;
            default: return BAD;
        }
    }

    public long digest() {
        long h = 17;
        for (int what = 0; what < COUNTS; what++) {
            if (what != LATEST_FINDING) {
                h = 31 * h + count(what);
            }
        }
        for (int what = 0; what < Told.ALL; what++) {
            h = 31 * h + told.value[what];
        }
        for (int i = 0; i < air.total; i++) {
            for (int what = 0; what < Air.TELLS; what++) {
                h = 31 * h + air.tell(i, what);
            }
            h = 31 * h + (!air.all[i].on ? NOT : air.isHeard(i) ? 1 : 0);
        }
        towers.choose(DIGEST_PRICE);
        h = 31 * h + auction.winners(0);
        h = 31 * h + towers.chosen;
        return 31 * h + towers.chosenWorth;
    }

    // ---- what several acts ask

    private static boolean within(int v, int least, int greatest) {
        return v >= least && v <= greatest;
    }

    private static boolean isSheet(int s) {
        return within(s, 0, SHEETS - 1);
    }

    private static boolean isForm(int form) {
        return within(form, Sheet.BYTES, Sheet.LONGS);
    }

    private static boolean isAsked(int kind, int slot, int day) {
        return within(kind, 0, KINDS - 1) && within(slot, 0, SLOTS - 1) && within(day, 0, Texts.MOST_DAY);
    }

    private int found(int number) {
        finding = number;
        return -10 - number;
    }

    private int refusalUnlessOn(int sender) {
        if (!air.has(sender)) {
            return BAD;
        }
        return air.all[sender].on ? 0 : NOT;
    }

    private static int wrongItem(Sheet sheet, int form, int i) {
        if (sheet.lost) {
            return NULL;
        }
        if (sheet.form != form) {
            return CAST;
        }
        return sheet.holds(i, 1) ? 0 : INDEX;
    }

    private static boolean areRows(int p, int a, int b) {
        boolean prime = p == 2 || p == 3 || p == 5 || p == 7 || p == 11;
        return prime && within(a, 1, p - 1) && within(b, 1, p - 1);
    }

    /** That at most t of n (1 to 8) fail, each by p hundredths: in millionths, rounded down. */
    private static int chanceOfAtMost(int t, int n, int p) {
        long sum = 0;
        long ways = 1;
        for (int k = 0; k <= t; k++) {
            sum += ways * power(p, k) * power(100 - p, n - k);
            ways = ways * (n - k) / (k + 1);
        }
        // The sum is of 100 to the n-th, millionths are 100 to the third: so nothing grows beyond a long.
        return (int) (n <= 3 ? sum * power(100, 3 - n) : sum / power(100, n - 3));
    }

    private static long power(int base, int times) {
        long product = 1;
        for (int i = 0; i < times; i++) {
            product *= base;
        }
        return product;
    }

    /** Asked only behind areRows(), so p is a prime. */
    private static int meetings(int p, int a, int b, int s) {
        int alike = 0;
        for (int t = 0; t < p; t++) {
            if ((a * t * t - b * (t + s) * (t + s)) % p == 0) {
                alike++;
            }
        }
        return alike;
    }

    /** The five numbers that set() tells. */
    private static final class Told {
        private static final int WOODS = 0, HILLS = 1, NOISE = 2, EAR = 3, LEVEL = 4, ALL = 5;
        private static final int[] LEAST = {0, 0, 1, 1, 1};
        private static final int[] GREATEST = {50, 200, 10000, 1000000, 1000000};

        private final int[] value;

        private Told() {
            value = new int[ALL];
            value[WOODS] = 5;
            value[HILLS] = 20;
            value[NOISE] = 10;
            value[EAR] = 100;
            value[LEVEL] = 100;
        }
    }

    /** A row of items, each kept as a long that has already been cut to the row's form. */
    private static final class Sheet {
        private static final int MOST_ITEMS = 400;
        private static final int BYTES = 0, SHORTS = 1, INTS = 2, LONGS = 3;

        private final long[] item;
        private boolean lost;
        private int form;
        private int size;

        private Sheet() {
            item = new long[MOST_ITEMS];
            lost = true;
        }

        private void renew(int newForm, int n) {
            lost = false;
            form = newForm;
            size = n;
            Arrays.fill(item, 0L);
        }

        /** Whether n items from i on are there; written so that no sum can wrap. */
        private boolean holds(int i, int n) {
            return !lost && i >= 0 && n >= 0 && i <= size && n <= size - i;
        }

        private void store(int i, long v) {
            if (form == BYTES) {
                item[i] = (byte) v;
            } else if (form == SHORTS) {
                item[i] = (short) v;
            } else if (form == INTS) {
                item[i] = (int) v;
            } else {
                item[i] = v;
            }
        }
    }

    /** The cells, what stands on them, and what is lost on the way between two. */
    private static final class Land {
        private static final int MOST_SIDE = 20;
        private static final int MOST_HILL = 99;
        private static final int MOST_WOOD = 9;

        private final Told told;
        private final Sheet hills;
        private final Sheet woods;
        private int width;
        private int height;

        private Land(Told told, Sheet hills, Sheet woods) {
            this.told = told;
            this.hills = hills;
            this.woods = woods;
            width = 10;
            height = 10;
        }

        private int size() {
            return width * height;
        }

        private boolean isCell(long number) {
            return number >= 0 && number < size();
        }

        private int hillOf(int c) {
            return known(hills, c, MOST_HILL);
        }

        private int woodOf(int c) {
            return known(woods, c, MOST_WOOD);
        }

        private static int known(Sheet sheet, int c, int greatest) {
            if (sheet.lost || c < 0 || c >= sheet.size) {
                return NONE;
            }
            long v = sheet.item[c];
            return v >= 0 && v <= greatest ? (int) v : NONE;
        }

        private int squaredWay(int a, int b) {
            int dx = b % width - a % width;
            int dy = b / width - a / width;
            return dx * dx + dy * dy;
        }

        private int lossBetween(int a, int m, int b, int k, int mood) {
            int x = a % width;
            int y = a / width;
            int dx = b % width - x;
            int dy = b / width - y;
            int n = Math.max(Math.abs(dx), Math.abs(dy));
            int sight = Math.max(0, known(hills, a, MOST_HILL)) + m;
            int rise = Math.max(0, known(hills, b, MOST_HILL)) + k - sight;
            int sum = 1 + dx * dx + dy * dy;
            for (int i = 1; i < n; i++) {
                int between = (y + nearest(i * dy, n)) * width + x + nearest(i * dx, n);
                int wood = known(woods, between, MOST_WOOD);
                int hill = known(hills, between, MOST_HILL);
                wood = wood != NONE ? wood : mood == 0 ? 0 : MOST_WOOD;
                hill = hill != NONE ? hill : mood == 0 ? 0 : MOST_HILL;
                int above = n * (hill - sight) - i * rise;
                sum += told.value[Told.WOODS] * wood;
                if (above > 0) {
                    sum += told.value[Told.HILLS] * (above / n);
                }
            }
            return sum;
        }

        /** The whole number next below (or at) over by n and a half; n is 1 or more. */
        private static int nearest(int over, int n) {
            return Math.floorDiv(2 * over + n, 2 * n);
        }

        /** What is got at cell b, without a mast there, of a strength on cell a. */
        private int gotFrom(int strength, int a, int mast, int b, int mood) {
            return 100 * strength / lossBetween(a, mast, b, 0, mood);
        }
    }

    /** One sender as it was told. */
    private static final class Sender {
        private static final int FIXED = 0, MOVER = 1, HOPPER = 2, LISTENER = 3, GUARDED = 4, CHEAT = 5;

        private int kind;
        private int home;
        private int strength;
        private int mast;
        private int much;
        private int goal;
        private int worth;
        private int slot;
        private int step;
        private int row;
        private boolean on;

        private Sender() {
            kind = FIXED;
            worth = 1;
            step = 1;
            row = NONE;
            on = true;
        }

        private boolean isHopping() {
            return kind == HOPPER || kind == CHEAT;
        }

        private int ownMood() {
            return kind == GUARDED ? 1 : 0;
        }

        private boolean isEnough(int gotOfIt, long against) {
            return 100L * gotOfIt >= much * against;
        }

        private int replace(int what, int v) {
            if (!mayBecome(what, v)) {
                return BAD;
            }
            int was;
            switch (what) {
                case 0:
                    was = strength;
                    strength = v;
                    return was;
                case 1:
                    was = worth;
                    worth = v;
                    return was;
                case 2:
                    was = slot;
                    slot = v;
                    return was;
                case 3:
                    was = step;
                    step = v;
                    return was;
                default:
                    was = row;
                    row = v;
                    return was;
            }
        }

        private boolean mayBecome(int what, int v) {
            switch (what) {
                case 0: return within(v, 1, MOST_STRENGTH);
                case 1: return within(v, 0, 1000);
                case 2: return within(v, 0, SLOTS - 1);
                case 3: return isHopping() && within(v, 0, SLOTS - 1);
                case 4: return kind == MOVER && within(v, NONE, SHEETS - 1);
                default: return false;
            }
        }
    }

    /** All senders at the tick, and who is in whose way. */
    private static final class Air {
        private static final int MOST = 20;
        private static final int MOST_RIVALS = 10;
        private static final int TELLS = 11;

        private final Told told;
        private final Land ground;
        private final Sheet[] sheets;
        private final Sender[] all;
        private final int[] rival;
        private final int[] rivalGot;
        private int total;
        private int tick;
        private int rivals;

        private Air(Told told, Land ground, Sheet[] sheets) {
            this.told = told;
            this.ground = ground;
            this.sheets = sheets;
            all = new Sender[MOST];
            for (int i = 0; i < MOST; i++) {
                all[i] = new Sender();
            }
            rival = new int[MOST];
            rivalGot = new int[MOST];
        }

        private boolean has(int i) {
            return i >= 0 && i < total;
        }

        private int totalOn() {
            int sum = 0;
            for (int i = 0; i < total; i++) {
                if (all[i].on) {
                    sum++;
                }
            }
            return sum;
        }

        private int cellOf(int i) {
            Sender s = all[i];
            if (s.kind != Sender.MOVER || s.row == NONE || !sheets[s.row].holds(tick, 1)) {
                return s.home;
            }
            long there = sheets[s.row].item[tick];
            return ground.isCell(there) ? (int) there : s.home;
        }

        private int slotAt(int i) {
            Sender s = all[i];
            return s.isHopping() ? Math.floorMod(s.slot + s.step * tick, SLOTS) : s.slot;
        }

        private int tell(int i, int what) {
            Sender s = all[i];
            switch (what) {
                case 0: return s.kind;
                case 1: return cellOf(i);
                case 2: return s.strength;
                case 3: return s.mast;
                case 4: return s.much;
                case 5: return s.goal;
                case 6: return s.worth;
                case 7: return slotAt(i);
                case 8: return s.on ? 1 : 0;
                case 9: return s.home;
                case 10: return s.slot;
                default: return LEAST_INT;
            }
        }

        private int gotAt(int i, int c, int mood) {
            return ground.gotFrom(all[i].strength, cellOf(i), all[i].mast, c, mood);
        }

        private int gotAtGoal(int i) {
            return gotAt(i, all[i].goal, all[i].ownMood());
        }

        /** Those that are on and in the slot of i, with what is got of each at the goal of i: how many. */
        private int gatherRivals(int i) {
            rivals = 0;
            for (int j = 0; j < total; j++) {
                if (j != i && all[j].on && slotAt(j) == slotAt(i)) {
                    rival[rivals] = j;
                    rivalGot[rivals] = gotAt(j, all[i].goal, 0);
                    rivals++;
                }
            }
            return rivals;
        }

        /** Noise and the rivals gathered last, but for the ones of the mask. */
        private long againstWithout(int mask) {
            long sum = told.value[Told.NOISE];
            for (int k = 0; k < rivals; k++) {
                if ((mask >> k & 1) == 0) {
                    sum += rivalGot[k];
                }
            }
            return sum;
        }

        private boolean isHeard(int i) {
            gatherRivals(i);
            return all[i].isEnough(gotAtGoal(i), againstWithout(0));
        }

        /** Asked behind gatherRivals(i), which found no more than MOST_RIVALS. */
        private int causeOf(int i) {
            int gotOfIt = gotAtGoal(i);
            int least = NONE;
            for (int mask = 0; mask < 1 << rivals; mask++) {
                boolean fewer = least == NONE || Integer.bitCount(mask) < Integer.bitCount(least);
                if (fewer && all[i].isEnough(gotOfIt, againstWithout(mask))) {
                    least = mask;
                }
            }
            return least == NONE ? NONE : asSenders(least);
        }

        private int asSenders(int mask) {
            int bits = 0;
            for (int k = 0; k < rivals; k++) {
                if ((mask >> k & 1) != 0) {
                    bits |= 1 << rival[k];
                }
            }
            return bits;
        }
    }

    /** Slots shared by a set of up to eight; a mask has bit i for the i-th of the set. */
    private static final class Parting {
        private static final int MOST = 8;
        private static final int MASKS = 256;
        private static final int NEVER = 99;

        private final Told told;
        private final Air air;
        private final int[] member;
        private final int[] gotAtGoal;
        private final boolean[] together;
        private final int[] fewest;
        private final int[] inSlot;
        private final int[] slotOf;
        private int total;

        private Parting(Told told, Air air) {
            this.told = told;
            this.air = air;
            member = new int[MOST];
            gotAtGoal = new int[MOST * MOST];
            together = new boolean[MASKS];
            fewest = new int[MASKS];
            inSlot = new int[MOST];
            slotOf = new int[MOST];
        }

        private boolean isSet(int set) {
            int size = Integer.bitCount(set);
            return size >= 1 && size <= MOST && (set & ~((1 << air.total) - 1)) == 0;
        }

        private int whole() {
            return (1 << total) - 1;
        }

        private void prepare(int set) {
            total = 0;
            for (int i = 0; i < air.total && total < MOST; i++) {
                if ((set >> i & 1) != 0) {
                    member[total] = i;
                    total++;
                }
            }
            for (int i = 0; i < total; i++) {
                for (int j = 0; j < total; j++) {
                    int mood = i == j ? air.all[member[i]].ownMood() : 0;
                    gotAtGoal[i * MOST + j] = air.gotAt(member[j], air.all[member[i]].goal, mood);
                }
            }
            for (int mask = 0; mask <= whole(); mask++) {
                together[mask] = mayBeTogether(mask);
            }
            countSlots();
        }

        private boolean mayBeTogether(int mask) {
            for (int i = 0; i < total; i++) {
                if ((mask >> i & 1) != 0 && !isHeardIn(i, mask)) {
                    return false;
                }
            }
            return true;
        }

        private boolean isHeardIn(int i, int mask) {
            long against = told.value[Told.NOISE];
            for (int j = 0; j < total; j++) {
                if (j != i && (mask >> j & 1) != 0) {
                    against += gotAtGoal[i * MOST + j];
                }
            }
            return air.all[member[i]].isEnough(gotAtGoal[i * MOST + i], against);
        }

        /** The fewest slots of each mask: its lowest one shares with some, and the rest is smaller. */
        private void countSlots() {
            fewest[0] = 0;
            for (int mask = 1; mask <= whole(); mask++) {
                int lowest = mask & -mask;
                fewest[mask] = NEVER;
                for (int one = mask; one > 0; one = one - 1 & mask) {
                    if ((one & lowest) != 0 && together[one]) {
                        fewest[mask] = Math.min(fewest[mask], 1 + fewest[mask ^ one]);
                    }
                }
            }
        }

        private int fewestSlots() {
            return fewest[whole()] == NEVER ? NONE : fewest[whole()];
        }

        private boolean divide() {
            Arrays.fill(inSlot, 0);
            return fewest[whole()] != NEVER && place(this, 0);
        }

        /** Puts the i-th and all behind it; slots are tried from the least on, so the first way found is the one told. */
        private static boolean place(Parting p, int i) {
            if (i >= p.total) {
                return true;
            }
            int many = p.fewest[p.whole()];
            for (int s = 0; s < many && s < MOST; s++) {
                if (p.together[p.inSlot[s] | 1 << i]) {
                    p.inSlot[s] |= 1 << i;
                    p.slotOf[i] = s;
                    if (place(p, i + 1)) {
                        return true;
                    }
                    p.inSlot[s] &= ~(1 << i);
                }
                if (p.inSlot[s] == 0) {
                    // All empty slots are alike: what failed in one fails in the next.
                    return false;
                }
            }
            return false;
        }

        private int mostWorth(int n) {
            int found = 0;
            for (int mask = 1; mask <= whole(); mask++) {
                if (fewest[mask] <= n) {
                    int more = worthOf(mask) - worthOf(found);
                    if (more > 0 || more == 0 && Integer.bitCount(mask) < Integer.bitCount(found)) {
                        found = mask;
                    }
                }
            }
            return asSenders(found);
        }

        private int worthOf(int mask) {
            int sum = 0;
            for (int i = 0; i < total; i++) {
                if ((mask >> i & 1) != 0) {
                    sum += air.all[member[i]].worth;
                }
            }
            return sum;
        }

        private int leastThatCannot(int n) {
            int found = 0;
            for (int mask = 1; mask <= whole(); mask++) {
                boolean fewer = found == 0 || Integer.bitCount(mask) < Integer.bitCount(found);
                if (fewer && fewest[mask] > n) {
                    found = mask;
                }
            }
            return asSenders(found);
        }

        private int asSenders(int mask) {
            int bits = 0;
            for (int i = 0; i < total; i++) {
                if ((mask >> i & 1) != 0) {
                    bits |= 1 << member[i];
                }
            }
            return bits;
        }
    }

    /** Listeners of one slot, stepped: by their places in it (bit i the i-th), what is told of them by sender. */
    private static final class Listening {
        private final Told told;
        private final Air air;
        private final int[] member;
        private final int[] gotAtHome;
        private final int[] gotAtGoal;
        private final int[] quiet;
        private final int[] times;
        private final int[] clear;
        private final int[] longest;
        private int total;

        private Listening(Told told, Air air) {
            this.told = told;
            this.air = air;
            member = new int[Air.MOST];
            gotAtHome = new int[Air.MOST * Air.MOST];
            gotAtGoal = new int[Air.MOST * Air.MOST];
            quiet = new int[Air.MOST];
            times = new int[Air.MOST];
            clear = new int[Air.MOST];
            longest = new int[Air.MOST];
        }

        private void gather(int slot) {
            total = 0;
            for (int i = 0; i < air.total; i++) {
                Sender s = air.all[i];
                if (s.on && s.kind == Sender.LISTENER && s.slot == slot) {
                    member[total] = i;
                    total++;
                }
            }
            for (int i = 0; i < total; i++) {
                Sender s = air.all[member[i]];
                for (int j = 0; j < total; j++) {
                    gotAtHome[i * Air.MOST + j] = air.gotAt(member[j], s.home, 0);
                    gotAtGoal[i * Air.MOST + j] = air.gotAt(member[j], s.goal, 0);
                }
            }
        }

        private int run(int seed, int ticks) {
            Arrays.fill(quiet, 0);
            Arrays.fill(times, 0);
            Arrays.fill(clear, 0);
            Arrays.fill(longest, 0);
            int words = 0;
            int drawn = seed;
            int before = 0;
            for (int tick = 0; tick < ticks; tick++) {
                int now = 0;
                for (int i = 0; i < total; i++) {
                    drawn = 1103515245 * drawn + 12345;
                    boolean wants = (drawn >>> 16) % 100 < air.all[member[i]].worth % 100;
                    if (wants && sumOthers(gotAtHome, before, i) < told.value[Told.EAR]) {
                        now |= 1 << i;
                    }
                }
                for (int i = 0; i < total; i++) {
                    note(i, now);
                }
                words += Integer.bitCount(now);
                before = now;
            }
            return words;
        }

        private long sumOthers(int[] gotThere, int speaking, int i) {
            long sum = 0;
            for (int j = 0; j < total; j++) {
                if (j != i && (speaking >> j & 1) != 0) {
                    sum += gotThere[i * Air.MOST + j];
                }
            }
            return sum;
        }

        private void note(int i, int speaking) {
            int sender = member[i];
            if ((speaking >> i & 1) == 0) {
                quiet[i]++;
                longest[sender] = Math.max(longest[sender], quiet[i]);
                return;
            }
            quiet[i] = 0;
            times[sender]++;
            if (isHeardAgainst(i, sumOthers(gotAtGoal, speaking, i))) {
                clear[sender]++;
            }
        }

        private boolean isHeardAgainst(int i, long others) {
            return air.all[member[i]].isEnough(gotAtGoal[i * Air.MOST + i], told.value[Told.NOISE] + others);
        }

        private int hiddenPairs() {
            int pairs = 0;
            int loud = told.value[Told.EAR];
            for (int i = 0; i < total; i++) {
                for (int j = 0; j < i; j++) {
                    boolean deaf = gotAtHome[i * Air.MOST + j] < loud && gotAtHome[j * Air.MOST + i] < loud;
                    if (deaf && (isDrownedBy(i, j) || isDrownedBy(j, i))) {
                        pairs++;
                    }
                }
            }
            return pairs;
        }

        private boolean isDrownedBy(int i, int j) {
            return isHeardAgainst(i, 0) && !isHeardAgainst(i, gotAtGoal[i * Air.MOST + j]);
        }
    }

    /** Bids for hours. */
    private static final class Auction {
        private static final int MOST = 8;
        private static final int ALL_HOURS = 4095;

        private final int[] hours;
        private final int[] price;
        private int total;

        private Auction() {
            hours = new int[MOST];
            price = new int[MOST];
        }

        private int add(int itsHours, int itsPrice) {
            hours[total] = itsHours;
            price[total] = itsPrice;
            total++;
            return total - 1;
        }

        /** Those that win where the ones of the mask left are not there. */
        private int winners(int left) {
            int found = 0;
            for (int mask = 1; mask < 1 << total; mask++) {
                if ((mask & left) == 0 && sharesNoHour(mask)) {
                    int more = priceOf(mask) - priceOf(found);
                    if (more > 0 || more == 0 && Integer.bitCount(mask) < Integer.bitCount(found)) {
                        found = mask;
                    }
                }
            }
            return found;
        }

        private boolean sharesNoHour(int mask) {
            int taken = 0;
            for (int i = 0; i < total; i++) {
                if ((mask >> i & 1) != 0) {
                    if ((taken & hours[i]) != 0) {
                        return false;
                    }
                    taken |= hours[i];
                }
            }
            return true;
        }

        private int priceOf(int mask) {
            int sum = 0;
            for (int i = 0; i < total; i++) {
                if ((mask >> i & 1) != 0) {
                    sum += price[i];
                }
            }
            return sum;
        }

        private int dueOf(int i) {
            int winning = winners(0);
            if ((winning >> i & 1) == 0) {
                return 0;
            }
            return priceOf(winners(1 << i)) - priceOf(winning & ~(1 << i));
        }
    }

    /** The texts as bytes, and the rules read from them. */
    private static final class Texts {
        private static final int MOST = 120;
        private static final int MOST_DAY = 99;
        /** The shortest rule with its ; takes five bytes. */
        private static final int MOST_RULES = MOST / 5 + 1;
        private static final int END = -1;

        private final int[] bytes;
        private final boolean[] allows;
        private final int[] kind;
        private final int[] firstSlot;
        private final int[] lastSlot;
        private final int[] firstDay;
        private final int[] lastDay;
        private int length;
        private int rules;
        private int faultAt;
        private int at;

        private Texts() {
            bytes = new int[MOST];
            allows = new boolean[MOST_RULES];
            kind = new int[MOST_RULES];
            firstSlot = new int[MOST_RULES];
            lastSlot = new int[MOST_RULES];
            firstDay = new int[MOST_RULES];
            lastDay = new int[MOST_RULES];
        }

        private int append(int b) {
            bytes[length] = b;
            length++;
            return length;
        }

        private int lastNaming(int itsKind, int slot, int day) {
            read();
            if (faultAt != NONE) {
                return NONE;
            }
            for (int r = rules - 1; r >= 0; r--) {
                boolean named = kind[r] == NONE || kind[r] == itsKind;
                if (named && within(slot, firstSlot[r], lastSlot[r]) && within(day, firstDay[r], lastDay[r])) {
                    return r;
                }
            }
            return NONE;
        }

        private void read() {
            at = 0;
            faultAt = NONE;
            rules = 0;
            boolean more = true;
            while (more && rules < MOST_RULES) {
                more = false;
                if (readRule(rules)) {
                    rules++;
                    if (sign() == ';') {
                        at++;
                        more = true;
                    } else if (sign() != END) {
                        faultAt = at;
                    }
                }
            }
        }

        private int sign() {
            return at < length ? bytes[at] : END;
        }

        private boolean failsAt(int place) {
            faultAt = place;
            return false;
        }

        private boolean readRule(int r) {
            if (sign() != '+' && sign() != '-') {
                return failsAt(at);
            }
            allows[r] = sign() == '+';
            at++;
            if (sign() != '*' && !within(sign(), '0', '0' + KINDS - 1)) {
                return failsAt(at);
            }
            kind[r] = sign() == '*' ? NONE : sign() - '0';
            at++;
            if (sign() != ':') {
                return failsAt(at);
            }
            at++;
            if (!readSpan(firstSlot, lastSlot, r, SLOTS - 1)) {
                return false;
            }
            if (sign() == '@') {
                at++;
                return readSpan(firstDay, lastDay, r, MOST_DAY);
            }
            firstDay[r] = 0;
            lastDay[r] = MOST_DAY;
            return true;
        }

        private boolean readSpan(int[] first, int[] last, int r, int greatest) {
            first[r] = readNumber(0, greatest);
            last[r] = first[r];
            if (faultAt == NONE && sign() == '-') {
                at++;
                last[r] = readNumber(first[r], greatest);
            }
            return faultAt == NONE;
        }

        private boolean isFigure() {
            return within(sign(), '0', '9');
        }

        private int readNumber(int least, int greatest) {
            int start = at;
            int v = 0;
            for (int figures = 0; figures < 2 && isFigure(); figures++) {
                v = 10 * v + sign() - '0';
                at++;
            }
            if (at == start || !within(v, least, greatest)) {
                faultAt = start;
            }
            return v;
        }
    }

    /** Boxes and what they logged of a word. */
    private static final class Watch {
        private static final int MOST = 8;
        private static final int MOST_GOT = 100000000;

        private final Land ground;
        private final int[] place;
        private final int[] entry;
        private int total;

        private Watch(Land ground) {
            this.ground = ground;
            place = new int[MOST];
            entry = new int[MOST];
        }

        private int add(int c) {
            place[total] = c;
            entry[total] = NONE;
            total++;
            return total - 1;
        }

        private int readable() {
            int sum = 0;
            for (int b = 0; b < total; b++) {
                if (entry[b] != NONE) {
                    sum++;
                }
            }
            return sum;
        }

        private boolean agrees(int c, int strength, int slack) {
            for (int b = 0; b < total; b++) {
                if (entry[b] != NONE) {
                    long would = ground.gotFrom(strength, c, 0, place[b], 0);
                    if (100 * Math.abs(entry[b] - would) > slack * (would + 100)) {
                        return false;
                    }
                }
            }
            return true;
        }
    }

    /** Sites, ears, and plans of which site speaks how strongly. */
    private static final class Towers {
        private static final int MOST_SITES = 6;
        private static final int MOST_EARS = 12;
        private static final int CHOICES = 3;
        private static final int ROWS = MOST_SITES * CHOICES;

        private final Told told;
        private final Land ground;
        private final int[] place;
        private final int[] mast;
        private final int[] strength;
        private final int[] price;
        private final int[] earPlace;
        private final int[] earWorth;
        private final int[] gotAtEar;
        private int sites;
        private int ears;
        private int chosen;
        private int chosenWorth;
        private int chosenPrice;

        private Towers(Told told, Land ground) {
            this.told = told;
            this.ground = ground;
            place = new int[MOST_SITES];
            mast = new int[MOST_SITES];
            strength = new int[ROWS];
            price = new int[ROWS];
            earPlace = new int[MOST_EARS];
            earWorth = new int[MOST_EARS];
            gotAtEar = new int[ROWS * MOST_EARS];
        }

        private int addSite(int c, int itsMast, int first, int second, int itsPrice, int other) {
            place[sites] = c;
            mast[sites] = itsMast;
            strength[sites * CHOICES + 1] = first;
            strength[sites * CHOICES + 2] = second;
            price[sites * CHOICES + 1] = itsPrice;
            price[sites * CHOICES + 2] = other;
            sites++;
            return sites - 1;
        }

        private int addEar(int c, int worth) {
            earPlace[ears] = c;
            earWorth[ears] = worth;
            ears++;
            return ears - 1;
        }

        private int plans() {
            int product = 1;
            for (int s = 0; s < sites; s++) {
                product *= CHOICES;
            }
            return product;
        }

        /** What each ear gets of each site with each strength; a site that is off has strength 0, so nothing. */
        private void measure() {
            for (int s = 0; s < sites; s++) {
                for (int e = 0; e < ears; e++) {
                    int way = ground.lossBetween(place[s], mast[s], earPlace[e], 0, 0);
                    for (int row = s * CHOICES; row < (s + 1) * CHOICES; row++) {
                        gotAtEar[row * MOST_EARS + e] = 100 * strength[row] / way;
                    }
                }
            }
        }

        private int worthOf(int figures) {
            int sum = 0;
            for (int e = 0; e < ears; e++) {
                if (isServed(e, figures)) {
                    sum += earWorth[e];
                }
            }
            return sum;
        }

        private boolean isServed(int e, int figures) {
            long all = 0;
            long greatest = 0;
            int rest = figures;
            for (int s = 0; s < sites; s++) {
                int one = gotAtEar[(s * CHOICES + rest % CHOICES) * MOST_EARS + e];
                all += one;
                greatest = Math.max(greatest, one);
                rest /= CHOICES;
            }
            long against = told.value[Told.NOISE] + all - greatest;
            return 100 * greatest >= told.value[Told.LEVEL] * against;
        }

        private int priceOf(int figures) {
            int sum = 0;
            int rest = figures;
            for (int s = 0; s < sites; s++) {
                sum += price[s * CHOICES + rest % CHOICES];
                rest /= CHOICES;
            }
            return sum;
        }

        /** The plan within a purse; the one with all sites off costs nothing and serves none. */
        private void choose(int purse) {
            measure();
            chosen = 0;
            chosenWorth = 0;
            chosenPrice = 0;
            int many = plans();
            for (int figures = 1; figures < many; figures++) {
                int itsPrice = priceOf(figures);
                if (itsPrice <= purse) {
                    int more = worthOf(figures) - chosenWorth;
                    if (more > 0 || more == 0 && itsPrice < chosenPrice) {
                        chosen = figures;
                        chosenWorth += more;
                        chosenPrice = itsPrice;
                    }
                }
            }
        }
    }
}
