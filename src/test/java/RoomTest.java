import com.sun.management.ThreadMXBean;
import java.lang.management.ManagementFactory;

/** All calls of one run live in one room: an object takes little of it, and its calls take none. */
public final class RoomTest {
    private static final ThreadMXBean BEAN = (ThreadMXBean) ManagementFactory.getThreadMXBean();
    private static long sum = 0;

    public static void main(String[] args) {
        // The first ones let the machine load what it needs.
        for (int k = 0; k < 20; k++) {
            AirParted warm = new AirParted();
            manyCalls(warm);
        }
        long id = Thread.currentThread().getId();
        long start = BEAN.getThreadAllocatedBytes(id);
        AirParted x = new AirParted();
        long made = BEAN.getThreadAllocatedBytes(id);
        manyCalls(x);
        long used = BEAN.getThreadAllocatedBytes(id);
        Check.holds("an object takes " + (made - start) + " bytes", made - start < 65536);
        Check.holds("its calls take " + (used - made) + " bytes", used - made < 4096);
        Check.holds("the calls were made: " + sum, sum != 0);
        Check.end();
    }

    private static void manyCalls(AirParted x) {
        for (int i = 0; i < 20; i++) {
            sum += x.sender(i % 6, 5 * i, 100 + i, i, 100, 99 - i) + x.change(i, 1, 50) + x.change(i, 4, 5);
        }
        for (int i = 0; i < 8; i++) {
            sum += x.sheet(i % 6, i % 4, 400) + x.put(i % 6, i % 4, i, i) + x.get(i % 6, i % 4, i) + x.box(i) + x.bid(i, 1 << i, 5);
            sum += x.site(i, i, 5, 500, 5, 50) + x.ear(9 * i, 5) + x.type('+') + x.type('*') + x.type(':') + x.type('7') + x.type(';');
        }
        for (int i = 0; i < 4; i++) {
            sum += x.heard(i) + x.drowns(i) + x.cause(i) + x.got(i, i) + x.loss(0, 1, 99, 2, 1) + x.ground(i, 0) + x.about(i, 1);
            sum += x.share(255) + x.fewest(255) + x.part(255, 1) + x.best(255, 2) + x.proof(255, 2) + x.assign(3);
            sum += x.odds(8, 4, 50) + x.flow(8, 4, 50, 8, 4) + x.hops(11, 1, 2, 3) + x.most(11, 1, 2);
            sum += x.listen(0, i, 200) + x.spoke(i, 0) + x.hidden(0) + x.won() + x.pays(0);
            sum += x.fault() + x.may(1, 2, 3) + x.rule(1, 2, 3) + x.hear(i) + x.cells(100, 50) + x.cell(100, 50, 3) + x.cheats(i, 5, 5);
            sum += x.serves(i) + x.plan(500, 0) + x.copy(0, 0, 4, 0, 9) + x.map(i, i) + x.count(i) + x.digest() + x.pass(1);
        }
        sum += x.lose(0) + x.wipe() + x.call() + x.log(0, 5) + x.on(0, false) + x.set(2, 11) + x.land(4, 4);
    }
}
