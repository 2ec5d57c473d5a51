import java.util.List;
import java.util.function.Supplier;
import java.util.function.ToLongFunction;

/** A refused call is made on one of two objects made alike; what can be seen of both must be alike still. */
final class Refusal {
    /** A call with one number of it left open. */
    interface Open {
        long on(AirParted x, int v);
    }

    private Refusal() {
    }

    static void due(String what, Supplier<AirParted> state, ToLongFunction<AirParted> call, long answer) {
        sameBut(what, state, call, answer, -1);
    }

    static void bad(String what, Supplier<AirParted> state, ToLongFunction<AirParted> call) {
        sameBut(what, state, call, AirParted.BAD, -1);
    }

    /** A FINDING changes count() 9 and nothing else. */
    static void finds(String what, Supplier<AirParted> state, ToLongFunction<AirParted> call, long answer, int finding) {
        sameBut(what, state, call, answer, finding);
    }

    private static void sameBut(String what, Supplier<AirParted> state, ToLongFunction<AirParted> call, long answer, int finding) {
        AirParted x = state.get();
        Check.due(what, call.applyAsLong(x), answer);
        List<Long> was = States.outside(state.get());
        List<Long> is = States.outside(x);
        Check.due(what + ": count(9)", is.get(0), finding < 0 ? was.get(0) : finding);
        Check.holds(what + ": changes nothing", is.subList(1, is.size()).equals(was.subList(1, was.size())));
        AirParted y = state.get();
        call.applyAsLong(y);
        List<Long> wasInside = States.inside(state.get());
        List<Long> isInside = States.inside(y);
        Check.holds(what + ": changes no text and no SHEET", isInside.subList(1, isInside.size()).equals(wasInside.subList(1, wasInside.size())));
    }

    /** One below the least and one above the greatest are refused, and so are the ends of the ints; the least and the greatest are not. */
    static void bounds(String what, Supplier<AirParted> state, Open call, int least, int greatest, long refusal) {
        for (int v : new int[] {least - 1, Integer.MIN_VALUE}) {
            due(what + " " + v + " is below the least", state, x -> call.on(x, v), refusal);
        }
        for (int v : new int[] {greatest + 1, Integer.MAX_VALUE}) {
            due(what + " " + v + " is above the greatest", state, x -> call.on(x, v), refusal);
        }
        taken(what + " " + least + ", the least,", state, x -> call.on(x, least), refusal);
        taken(what + " " + greatest + ", the greatest,", state, x -> call.on(x, greatest), refusal);
    }

    static void bounds(String what, Supplier<AirParted> state, Open call, int least, int greatest) {
        bounds(what, state, call, least, greatest, AirParted.BAD);
    }

    static void taken(String what, Supplier<AirParted> state, ToLongFunction<AirParted> call, long refusal) {
        Check.holds(what + " is taken", call.applyAsLong(state.get()) != refusal);
    }
}
