import com.sun.management.ThreadMXBean;
import java.lang.management.ManagementFactory;

/** A run's calls live in one room, so they make nothing: only what toss and element throw is made. */
public final class RoomTest {
    private static final int CALLS = 512;

    public static void main(String[] args) {
        ThreadMXBean threads = (ThreadMXBean) ManagementFactory.getThreadMXBean();
        NoTwoTouch x = Due.with("f9;f9;f9;f9;f9;f9;h01;h12;h23;h34;h45;h50;c02;p99;p99k0;p99;o00;x10;");
        Due.bytes(x, 2, 1, 9, 0, 1, 2, 0);
        Due.keep(x, 2, 10);
        callAll(x);
        long thread = Thread.currentThread().getId();
        long before = threads.getThreadAllocatedBytes(thread);
        for (int i = 0; i < CALLS; i++) {
            callAll(x);
        }
        long made = threads.getThreadAllocatedBytes(thread) - before;
        System.out.println(made + " bytes made by " + CALLS + " rounds");
        Due.is("next to nothing is made", made < CALLS * 16L ? 1 : 0, 1);
        long beforeNew = threads.getThreadAllocatedBytes(thread);
        new NoTwoTouch();
        long madeNew = threads.getThreadAllocatedBytes(thread) - beforeNew;
        System.out.println(madeNew + " bytes made by a new object");
        Due.is("an object is small", madeNew < 20000 ? 1 : 0, 1);
        Due.end();
    }

    private static void callAll(NoTwoTouch x) {
        x.row(3, 0, 100);
        x.keep(3, 1, 2, 7);
        x.land(0);
        x.fewest(-1);
        x.most(0, 0);
        x.best(-1);
        x.withMusts(-1);
        x.chain(2);
        x.flood(0, 3);
        x.frees();
        x.game(1);
        x.value();
        x.deeds(2, 0);
        x.lots(77, 1);
        x.judge(2);
        x.may(1, 0);
        x.may(1, 1);
        x.move(1);
        x.image();
        x.restore();
        x.copy(2, 0, 2, 1, 3);
    }
}
