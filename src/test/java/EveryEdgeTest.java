import java.lang.reflect.Method;
import java.util.ArrayList;
import java.util.Arrays;
import java.util.List;

/** Every call of the face with EDGES in each of its numbers, and with FEW in each two of them: the class and Model answer alike, none throws. */
public final class EveryEdgeTest {
    private static final int MOST_CALLS = 512;
    private static final int[] EDGES = {Integer.MIN_VALUE, Integer.MIN_VALUE + 1, -400, -31, -3, -2, -1, 0, 1, 2, 3, 4, 5, 6, 7, 8, 9, 10, 11, 12,
        13, 19, 20, 21, 29, 30, 31, 32, 33, 63, 64, 99, 100, 101, 119, 120, 121, 127, 128, 200, 201, 255, 256, 399, 400, 401, 511, 512, 728, 729,
        1000, 1001, 4095, 4096, 9999, 10000, 10001, 999999, 1000000, 1000001, 100000000, 100000001, Integer.MAX_VALUE - 1, Integer.MAX_VALUE};
    private static final int[] FEW = {Integer.MIN_VALUE, -1, 0, 1, 5, 8, 12, 20, 400, 401, Integer.MAX_VALUE};

    /** A call that is taken where some of everything is there, to begin from. */
    private static final Object[][] TAKEN = {{"land", 6, 5}, {"ground", 1, 0}, {"set", 2, 9}, {"loss", 0, 1, 17, 2, 1}, {"pass", 1},
        {"sender", 0, 1, 5, 2, 50, 3}, {"about", 1, 7}, {"change", 2, 3, 4}, {"on", 1, true}, {"got", 4, 9}, {"heard", 1}, {"drowns", 1},
        {"cause", 1}, {"share", 6}, {"fewest", 6}, {"part", 6, 1}, {"best", 6, 1}, {"proof", 6, 1}, {"assign", 6}, {"odds", 5, 1, 10},
        {"flow", 5, 1, 10, 4, 2}, {"hops", 7, 2, 3, 1}, {"most", 7, 2, 3}, {"listen", 0, 1, 20}, {"spoke", 3, 1}, {"hidden", 0},
        {"bid", 1, 3, 5}, {"call"}, {"won"}, {"pays", 0}, {"type", 59}, {"wipe"}, {"fault"}, {"may", 3, 1, 15}, {"rule", 3, 1, 15},
        {"box", 1}, {"log", 0, 5}, {"hear", 1}, {"cells", 100, 20}, {"cell", 100, 20, 0}, {"cheats", 1, 3, 5}, {"site", 1, 2, 3, 4, 5, 6},
        {"ear", 1, 5}, {"serves", 1}, {"plan", 60, 0}, {"sheet", 4, 1, 5}, {"lose", 3}, {"put", 2, 2, 1, 7L}, {"get", 2, 2, 1},
        {"copy", 2, 0, 2, 1, 2}, {"map", 1, 2}, {"count", 9}, {"digest"}};

    private final int state;
    private AirParted real;
    private Model model;
    private int calls;

    private EveryEdgeTest(int state) {
        this.state = state;
        begin();
    }

    public static void main(String[] args) {
        Check.due("every call of the face is here", TAKEN.length, 53);
        for (int state = 0; state < 3; state++) {
            EveryEdgeTest test = new EveryEdgeTest(state);
            for (Object[] taken : TAKEN) {
                test.edgesOf(taken);
            }
        }
        Check.end();
    }

    private void edgesOf(Object[] taken) {
        for (int a = 1; a < taken.length; a++) {
            for (int v : EDGES) {
                ask(with(taken, a, v));
            }
            for (int b = a + 1; b < taken.length; b++) {
                for (int v : FEW) {
                    for (int u : FEW) {
                        ask(with(with(taken, a, v), b, u));
                    }
                }
            }
        }
        ask(taken);
        begin();
    }

    private static Object[] with(Object[] call, int at, int v) {
        Object[] changed = call.clone();
        changed[at] = call[at] instanceof Boolean ? (Object) (v > 0) : call[at] instanceof Long ? (Object) (long) v : (Object) v;
        return changed;
    }

    private void ask(Object[] call) {
        // Room is left for the counts that show what the calls have done.
        if (calls >= MOST_CALLS - 20) {
            begin();
        }
        both(call);
    }

    private void begin() {
        if (real != null) {
            for (int what = 0; what < 12; what++) {
                both("count", what);
            }
            both("digest");
        }
        real = new AirParted();
        model = new Model();
        calls = 0;
        if (state > 0) {
            both("land", 6, 5);
            rows();
            things(state == 1);
        }
    }

    private void rows() {
        int[] sizes = state == 1 ? new int[] {30, 12, 4, 5, -1, 0} : new int[] {400, 400, 400, 400, 400, 400};
        for (int s = 0; s < 6; s++) {
            if (sizes[s] >= 0) {
                both("sheet", s, s % 4, sizes[s]);
            }
            for (int i = 0; i < 4; i++) {
                both("put", s, s % 4, 3 * i, (long) (7 * i + s));
            }
        }
    }

    private void things(boolean some) {
        for (int i = 0; i < (some ? 7 : 20); i++) {
            both("sender", i % 6, i, 100 + 50 * i, i, 20 + i, 29 - i);
            both("change", i, 1, 30 + i);
        }
        both("change", 1, 4, 3);
        both("change", 2, 3, 5);
        both("on", 0, false);
        both("listen", 0, 77, 30);
        for (int b = 0; b < (some ? 3 : 8); b++) {
            both("bid", b, 3 << b, 10 + b);
            both("box", 4 * b);
        }
        both("log", 0, 900);
        String text = some ? "+3:0-5@10-20;-*:2" : "+0:1;".repeat(23) + "+3:11";
        for (int k = 0; k < text.length(); k++) {
            both("type", (int) text.charAt(k));
        }
        for (int s = 0; s < (some ? 2 : 6); s++) {
            both("site", 5 * s, s, 10 + s, 40 + s, 30 + s, 50 + s);
            both("ear", 5 * s, 3 + s);
            both("ear", 5 * s + 1, 1 + s);
        }
    }

    private void both(Object... call) {
        calls++;
        Object[] args = Arrays.copyOfRange(call, 1, call.length);
        String name = (String) call[0];
        Check.due(name + Arrays.toString(args) + " in state " + state, answer(real, name, args), answer(model, name, args));
    }

    private static final List<Method> FOUND = new ArrayList<>();

    private static Method named(Class<?> of, String name) {
        for (Method m : FOUND) {
            if (m.getDeclaringClass() == of && m.getName().equals(name)) {
                return m;
            }
        }
        for (Method m : of.getDeclaredMethods()) {
            if (m.getName().equals(name) && (m.getModifiers() & 1) != 0) {
                m.setAccessible(true);
                FOUND.add(m);
                return m;
            }
        }
        throw new IllegalStateException(name);
    }

    private static long answer(Object of, String name, Object[] args) {
        try {
            return ((Number) named(of.getClass(), name).invoke(of, args)).longValue();
        } catch (ReflectiveOperationException e) {
            throw new IllegalStateException(name + Arrays.toString(args), e);
        }
    }
}
