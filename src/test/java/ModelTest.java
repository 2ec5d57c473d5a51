import java.lang.reflect.Method;
import java.util.ArrayList;
import java.util.Arrays;
import java.util.List;
import java.util.Random;

/** Runs of drawn calls, each asked of the class and of Model: both must answer alike, and none may throw. */
public final class ModelTest {
    private static final int[] EDGES = {Integer.MIN_VALUE, Integer.MIN_VALUE + 1, -1000, -12, -3, -2, -1, 0, 1, 2, 3, 5, 6, 7, 8, 9,
        11, 12, 19, 20, 21, 31, 32, 33, 99, 100, 101, 120, 200, 201, 255, 256, 399, 400, 401, 1000, 1001, 4095, 4096, 10000,
        10001, 1000000, 1000001, 100000000, 100000001, Integer.MAX_VALUE - 1, Integer.MAX_VALUE};

    private final Random random;
    private final AirParted real = new AirParted();
    private final Model model = new Model();
    private final List<String> calls = new ArrayList<>();
    private final int cells;
    private final int theme;

    private ModelTest(int seed) {
        random = new Random(seed);
        theme = seed % 6;
        int w = seed % 3 == 0 ? 1 + random.nextInt(20) : 1 + random.nextInt(7);
        int h = seed % 3 == 0 ? 1 + random.nextInt(20) : 1 + random.nextInt(7);
        cells = w * h;
        same("land", w, h);
    }

    public static void main(String[] args) throws Exception {
        int runs = Integer.getInteger("airparted.runs", 240);
        int from = Integer.getInteger("airparted.from", 0);
        for (int seed = from; seed < from + runs; seed++) {
            new ModelTest(seed).run();
        }
        Check.end();
    }

    private static Method named(Class<?> of, String name) {
        for (Method m : of.getDeclaredMethods()) {
            if (m.getName().equals(name) && (m.getModifiers() & 1) != 0) {
                m.setAccessible(true);
                return m;
            }
        }
        throw new IllegalStateException(name);
    }

    private long ask(Object of, String name, Object[] args) {
        try {
            return ((Number) named(of.getClass(), name).invoke(of, args)).longValue();
        } catch (ReflectiveOperationException e) {
            throw new IllegalStateException(name + Arrays.toString(args) + " behind " + calls, e);
        }
    }

    private void same(String name, Object... args) {
        // What an object answers behind its 512th call is free.
        if (calls.size() >= 512) {
            return;
        }
        long got = ask(real, name, args);
        long want = ask(model, name, args);
        calls.add(name + Arrays.toString(args));
        Check.due(got == want ? name : calls + "", got, want);
    }

    private int to(int most) {
        return random.nextInt(most + 1);
    }

    private int cell() {
        return random.nextInt(cells);
    }

    private int strength() {
        int most = new int[] {9, 100, 1000, 30000, 1000000}[to(4)];
        return 1 + random.nextInt(most);
    }

    private int someSender() {
        int n = model.count(0);
        return n == 0 || to(20) == 0 ? to(20) : random.nextInt(n);
    }

    private int someSet() {
        int n = model.count(0);
        int set = 0;
        int size = 1 + to(theme == 1 ? 7 : 5);
        for (int k = 0; k < size && n > 0; k++) {
            set |= 1 << random.nextInt(n);
        }
        return to(30) == 0 ? set | 1 << to(31) : set;
    }

    private void run() {
        startAsTheme();
        int many = 150;
        for (int k = 0; k < many; k++) {
            drawn(to(59));
            if (k % 10 == 0) {
                same("digest");
            }
        }
        for (int what = -1; what <= 12; what++) {
            same("count", what);
        }
    }

    private void startAsTheme() {
        if (to(3) > 0) {
            same("sheet", 0, to(3), Math.min(400, cells + to(2) - 1));
            same("sheet", 1, to(3), to(cells));
            for (int k = 0; k < 40; k++) {
                anyPut(to(1), to(1) == 0 ? to(110) : to(10));
            }
        }
        int senders = theme == 0 ? 0 : theme == 2 ? 14 : 3 + to(6);
        for (int k = 0; k < senders; k++) {
            newSender();
        }
        if (theme == 0) {
            newSender();
            newSender();
            for (int k = 0; k < 4 + to(4); k++) {
                same("bid", to(1), 1 << to(5) | 1 << to(5), 1 + to(9));
            }
            same("won");
            for (int k = 0; k < 9; k++) {
                same("pays", k);
            }
            for (int k = 0; k < 8; k++) {
                someText();
            }
        }
        if (theme == 3) {
            for (int k = 0; k < model.count(0); k++) {
                same("change", k, 1, to(250));
                same("change", k, 2, to(3) == 0 ? 1 : 0);
            }
        }
        if (theme == 5) {
            for (int k = 0; k < 5; k++) {
                same("site", cell(), to(20), 1 + to(50), 60 + to(900), 1 + to(200), 201 + to(99));
                same("ear", cell(), 1 + to(5));
                same("ear", cell(), 1 + to(5));
            }
        }
        if (theme == 4) {
            for (int k = 0; k < 1 + to(4); k++) {
                same("box", cell());
            }
        }
    }

    private void newSender() {
        int kind = theme == 3 && to(3) > 0 ? 3 : to(5);
        same("sender", kind, cell(), strength(), to(20), 1 + to(to(2) == 0 ? 9999 : 200), cell());
    }

    private void anyPut(int s, long v) {
        for (int form = 0; form < 4; form++) {
            same("put", s, form, to(7) == 0 ? to(401) - 1 : cell(), v);
        }
    }

    private void drawn(int which) {
        if (to(14) == 0) {
            wild();
            return;
        }
        if (which < 12) drawnOfSenders(which);
        else if (which < 22) drawnOfSets(which);
        else if (which < 32) drawnOfWords(which);
        else if (which < 42) drawnOfBoxes(which);
        else if (which < 50) drawnOfPlans(which);
        else drawnOfSheets(which);
    }

    private void drawnOfSenders(int which) {
        int i = someSender();
        switch (which) {
            case 0: newSender(); break;
            case 1: same("about", i, to(11)); break;
            case 2: same("change", i, 0, strength()); break;
            case 3: same("change", i, 1 + to(1), to(11)); break;
            case 4: same("change", i, 3, to(11)); break;
            case 5: same("change", i, 4, to(6) - 1); break;
            case 6: same("on", i, to(2) > 0); break;
            case 7: same("got", i, cell()); break;
            case 8: same("heard", i); break;
            case 9: same("drowns", i); break;
            case 10: same("cause", i); break;
            default: same("pass", 1 + to(to(9) == 0 ? 999 : 5)); break;
        }
    }

    private void drawnOfSets(int which) {
        int set = someSet();
        switch (which) {
            case 12: same("share", set); break;
            case 13: same("fewest", set); break;
            case 14: same("part", set, someSender()); break;
            case 15: same("best", set, 1 + to(3)); break;
            case 16: same("proof", set, 1 + to(3)); break;
            case 17: same("assign", set); break;
            case 18: same("change", someSender(), 1, to(1000)); break;
            case 19: same("loss", cell(), to(20), cell(), to(20), to(1)); break;
            case 20: same("ground", cell(), to(1)); break;
            default: same("set", to(4), 1 + to(new int[] {9, 50, 200, 10000, 1000000}[to(4)])); break;
        }
    }

    private void drawnOfWords(int which) {
        int p = new int[] {2, 3, 5, 7, 11}[to(4)];
        switch (which) {
            case 22: same("odds", 1 + to(7), to(8), to(100)); break;
            case 23: same("flow", 1 + to(7), to(4), to(100), 1 + to(7), to(8)); break;
            case 24: same("hops", p, 1 + to(p - 2), 1 + to(p - 2), to(p)); break;
            case 25: same("most", p, 1 + to(p - 2), 1 + to(p - 2)); break;
            case 26: someListening(); break;
            case 27: same("spoke", someSender(), to(2)); break;
            case 28: same("hidden", to(theme == 3 ? 2 : 11)); break;
            case 29: same("bid", someSender(), 1 << to(11) | 1 << to(11), 1 + to(20)); break;
            case 30: same("won"); same("pays", to(7)); break;
            default: if (to(9) == 0) same("call"); else someText(); break;
        }
    }

    private void someListening() {
        same("set", 3, 1 + to(to(1) == 0 ? 500 : 20000));
        same("listen", theme == 3 ? to(1) : to(11), random.nextInt(), 1 + to(199));
        same("hidden", theme == 3 ? to(1) : to(11));
        for (int k = 0; k < 5; k++) {
            same("spoke", someSender(), k % 3);
        }
    }

    private void someText() {
        if (to(6) == 0 || model.fault() != -1 && to(2) > 0) {
            same("wipe");
        }
        int start = model.count(3);
        if (start > 0 && model.fault() == -1) {
            same("type", (int) ';');
        }
        StringBuilder b = new StringBuilder();
        b.append("+-".charAt(to(1))).append(to(1) == 0 ? '*' : (char) ('0' + to(5))).append(':');
        span(b, 11);
        if (to(1) == 0) {
            span(b.append('@'), 99);
        }
        if (to(9) == 0) b.setCharAt(to(b.length() - 1), "+-*:@;0123456789x".charAt(to(16)));
        for (int k = 0; k < b.length(); k++) {
            same("type", (int) b.charAt(k));
            same("fault");
        }
        for (int k = 0; k < 5; k++) {
            int kind = to(5), slot = to(11), day = to(99);
            same("rule", kind, slot, day);
            same("may", kind, slot, day);
        }
    }

    /** A number or two, now and then such as may not be. */
    private void span(StringBuilder b, int most) {
        int first = to(19) == 0 ? to(120) : to(most);
        b.append(to(4) == 0 && first < 10 ? "0" : "").append(first);
        if (to(1) == 0) {
            b.append('-').append(to(19) == 0 ? to(most + 1) : first + to(Math.max(0, most - first)));
        }
    }

    private void drawnOfBoxes(int which) {
        switch (which) {
            case 32: if (to(3) == 0) same("box", cell()); break;
            case 33: same("log", to(3), to(2) == 0 ? -1 : to(20000)); break;
            case 34: case 35: case 36: same("hear", someSender()); break;
            case 37: same("cells", strength(), to(100)); break;
            case 38: same("cell", strength(), to(100), to(20)); break;
            default: same("cheats", someSender(), to(10), to(100)); break;
        }
    }

    private void drawnOfPlans(int which) {
        switch (which) {
            case 42: same("site", cell(), to(20), 1 + to(500), 1 + to(5000), 1 + to(99), 1 + to(999)); break;
            case 43: same("ear", cell(), 1 + to(99)); break;
            case 44: case 45: same("serves", to(theme == 5 ? 242 : 3)); break;
            case 46: same("plan", to(1500), 0); break;
            case 47: same("plan", to(600), 1); break;
            default: same("plan", to(600), 2); break;
        }
    }

    private void drawnOfSheets(int which) {
        int s = to(5);
        switch (which) {
            case 50: if (to(3) == 0) same("sheet", s, to(3), to(9) == 0 ? to(402) - 1 : to(60)); break;
            case 51: if (to(3) == 0) same("lose", s); break;
            case 52: anyPut(s, to(cells)); break;
            case 53: anyPut(s, random.nextLong()); break;
            case 54: for (int f = 0; f < 4; f++) same("get", s, f, to(30) - 1); break;
            case 55: same("copy", s, to(30) - 1, s, to(30), to(30) - 1); break;
            case 56: same("copy", s, to(30), to(5), to(30), to(30)); break;
            case 57: same("map", someSender(), s); for (int f = 0; f < 4; f++) same("get", s, f, to(30)); break;
            case 58: same("put", s, to(3), to(9), (long) cell()); break;
            default: same("count", 9); break;
        }
    }

    /** Any call with any numbers. */
    private void wild() {
        Method[] all = AirParted.class.getDeclaredMethods();
        List<Method> face = new ArrayList<>();
        for (Method m : all) {
            if ((m.getModifiers() & 1) != 0) face.add(m);
        }
        face.sort((a, b) -> a.getName().compareTo(b.getName()));
        Method m = face.get(random.nextInt(face.size()));
        Class<?>[] types = m.getParameterTypes();
        Object[] args = new Object[types.length];
        for (int k = 0; k < args.length; k++) {
            int v = to(2) == 0 ? EDGES[random.nextInt(EDGES.length)] : to(3);
            args[k] = types[k] == boolean.class ? (Object) (v > 0) : types[k] == long.class ? (Object) (long) v : (Object) v;
        }
        same(m.getName(), args);
    }
}
