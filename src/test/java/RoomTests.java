import com.sun.management.ThreadMXBean;
import java.lang.management.ManagementFactory;

/** Calls make no objects, so that 512 of them, however dear, stay in one room. */
public final class RoomTests {
    private static final ThreadMXBean BEAN = (ThreadMXBean) ManagementFactory.getThreadMXBean();

    private static long room() {
        return BEAN.getThreadAllocatedBytes(Thread.currentThread().getId());
    }

    private static void tell(BluesAndGreens x, int[] signs, int length) {
        for (int v : signs) {
            x.sign(v);
        }
        x.end(length);
    }

    private static final int[] DRIVERS = {0x31317062, 0x3b31};
    private static final int[] ACTS = {0x72316230, 0x31633032, 0x64306730, 0x35733030};
    private static final int[] RULE = {0x732a3228, 0x6e2b6929};

    private static int allCalls(BluesAndGreens x) {
        int sum = x.race(60) + x.buy(0, 1) + x.curse(0, 1) + x.dig(1) + x.grain(0, 5) + x.show(0, 1) + x.undo() + x.order()
            + x.ahead(99) + x.joins() + x.bribe(0) + x.lead(0) + x.stable(0) + x.apart() + x.calm() + x.risky() + x.worst()
            + x.riots(0) + x.spark() + x.won(0, 1) + x.gates(0, 9) + x.common(0) + x.lots(12, 6, 3) + x.bent(3, 4, 9, 3)
            + x.heard(0, 1) + x.fits() + x.ask() + x.forget() + x.rests(5, 5) + x.years(5, 60) + x.count(4) + x.sheet(0, 8, 1, 3);
        sum += (x.keep(0) ? 1 : 0) + (x.again(0) ? 1 : 0) + x.limit(9);
        tell(x, DRIVERS, 6);
        sum += x.drivers() + x.quarters() + x.quarrels();
        tell(x, ACTS, 16);
        sum += x.season();
        tell(x, RULE, 8);
        sum += x.rule();
        tell(x, RULE, 7);
        return sum + x.law();
    }

    public static void main(String[] args) {
        for (int i = 0; i < 20; i++) {
            allCalls(new BluesAndGreens());
        }
        long start = room();
        BluesAndGreens x = new BluesAndGreens();
        long made = room() - start;
        x.sign(0x35323062);
        x.drivers();
        x.sign(0x33333067);
        x.drivers();
        x.sign(0x31623061);
        x.quarters();
        x.sign(0x35313633);
        x.quarrels();
        start = room();
        int sum = 0;
        for (int i = 0; i < 10; i++) {
            sum += allCalls(x);
        }
        long used = room() - start;
        System.out.println("an object takes " + made + " bytes, and ten times all calls take " + used + " (" + sum + ")");
        if (made > 20000 || used > 20000) {
            System.exit(1);
        }
    }
}
