import com.sun.management.ThreadMXBean;
import java.lang.management.ManagementFactory;

/** All calls of one run live in one room: an object is made once, and its calls make next to nothing. */
public final class RoomTest {
    private static final ThreadMXBean BEAN = (ThreadMXBean) ManagementFactory.getThreadMXBean();
    private static int answers = 0;

    public static void main(String[] args) {
        DeadStick warm = filled();
        for (int i = 0; i < 5; i++) everything(warm);
        long before = bytes();
        DeadStick x = filled();
        long made = bytes() - before;
        before = bytes();
        for (int i = 0; i < 10; i++) everything(x);
        long called = bytes() - before;
        System.out.println(made + " bytes by making one, " + called + " bytes by its calls (" + answers + ")");
        if (made > 200_000 || called > 20_000) System.exit(1);
    }

    private static long bytes() {
        return BEAN.getThreadAllocatedBytes(Thread.currentThread().getId());
    }

    private static DeadStick filled() {
        DeadStick x = new DeadStick();
        x.craft(3, 99);
        for (int i = 0; i < 8; i++) x.end(1 + i % 5, 63 - i, 0, 2, 9);
        x.sheet(0, 1, 20);
        for (int i = 0; i < 20; i++) x.put(0, i, i % 9);
        for (int i = 0; i < 4; i++) x.plan(0);
        for (int i = 0; i < 5; i++) x.scene(9, 9, 0, 20);
        for (int i = 0; i < 7; i++) x.step(i + 1, 9, 9);
        for (int i = 0; i < 8; i++) x.job(i + 5);
        x.shelf(0, 0, 4);
        return x;
    }

    private static void everything(DeadStick x) {
        x.feed(0x206669207466656CL, 8);
        x.feed(0x3B313D31L, 4);
        answers += x.read() + x.hand() + x.ruled(0) + x.line(0, 1);
        for (int i = 0; i < 8; i++) answers += x.spare(i) + x.late(i) + x.odds(0, i, 0);
        answers += x.can() + x.bestEnd() + x.mean(0, 0) + x.bestPlan() + x.prove(0) + x.judge();
        answers += x.worth(0) + x.worth(1) + x.order(6) + x.shared(0) + x.ask(0, 3, 7);
        answers += x.sheet(1, 3, 64) + x.put(1, 5, 5) + x.keep() + x.again();
    }
}
