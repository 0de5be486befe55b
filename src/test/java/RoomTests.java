import com.sun.management.ThreadMXBean;
import java.lang.management.ManagementFactory;

/** All calls of one run share one room: a new object is small, and no call makes anything. */
public final class RoomTests {
    private static final int CALLS = 200;
    private static final Checks c = new Checks("RoomTests");
    private static final ThreadMXBean THREADS = (ThreadMXBean) ManagementFactory.getThreadMXBean();

    public static void main(String[] args) {
        String text = "trade 40 1;trade 30 2;trade 20 3;trade 9 4;trade 9 5;trade 9 6;person;person;person;person;person;person;skip 0 1;wheel 5 4 3 2 1 0;";
        TradeWheel x = Checks.of(text);
        everyCall(x);
        long before = made();
        for (int i = 0; i < CALLS; i++) everyCall(x);
        long each = (made() - before) / CALLS;
        c.holds("bytes made by a round of all calls: " + each, each < 16);
        before = made();
        TradeWheel[] many = new TradeWheel[CALLS];
        for (int i = 0; i < CALLS; i++) many[i] = new TradeWheel();
        long one = (made() - before) / CALLS;
        c.holds("bytes made by a new object: " + one, one < 16384);
        c.due("they are objects", many[CALLS - 1].count(0), 0);
        c.close();
    }

    private static long made() {
        return THREADS.getThreadAllocatedBytes(Thread.currentThread().getId());
    }

    private static void everyCall(TradeWheel x) {
        x.type(0x20706572736F6E3BL, 8);
        x.clear();
        x.type(0x20706572736F6E3BL, 7);
        x.type(0x20706572736F6E3BL, 2);
        x.read();
        x.clear();
        x.anew();
        x.go(3);
        x.help(0, 1);
        x.ill(2);
        x.oil(1);
        x.lacking(40, 0);
        x.best(40, 0);
        x.taught(40, 0);
        x.standsIn(0, 40);
        x.madeBy(0, 3, 99);
        x.again();
        for (int kind = 0; kind < 6; kind++) x.rate(kind, 0);
        x.keep(0);
        x.back(0);
        for (int what = 0; what < 5; what++) {
            x.trade(0, what);
            x.person(0, what);
            x.now(what);
            x.count(what);
            x.tune(what, 5);
        }
        x.skill(0, 0);
        x.wheel(0);
        x.favours(0, 1);
        x.trace();
    }
}
