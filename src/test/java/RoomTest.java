import com.sun.management.ThreadMXBean;
import java.lang.management.ManagementFactory;

/** All calls of a run live in one room: rows are made with the object (and its image) and used again. */
public final class RoomTest {
    private static final ThreadMXBean BEAN = (ThreadMXBean) ManagementFactory.getThreadMXBean();

    private static long made() {
        return BEAN.getThreadAllocatedBytes(Thread.currentThread().getId());
    }

    private static int busy(OneWire x) {
        int sum = 0;
        for (int k = 0; k < 12; k++) sum += x.farm(k % 4, k % 10, k % 10) + x.code(k, 3, k % 8);
        for (int k = 0; k < 9; k++) {
            sum += x.feed(0x66697273742031L, 7) + x.feed(0x206b3d31, 4) + x.feed(0x7c683c3530L, 5) + x.text(k);
        }
        for (int k = 0; k < 60; k++) sum += x.ring(k % 12, (k + 1) % 12, 1 + k % 5) + x.listen(k % 12, k);
        for (int k = 0; k < 40; k++) {
            sum += x.minute(k % 3 == 0 ? 200 : 5) + x.best(k % 4, 1 + k % 3, -1) + x.divide(7, 3, k % 7) + x.storm(1);
            sum += x.told(k % 12, 12, true) + x.maybe(k % 4, k % 10) + x.since(k % 12) + x.behind(k % 12, 0);
            sum += x.feed(0x74656c6c206b3d31L, 8) + x.tried(1, 0) + x.undo() + x.of(k, k % 8) + x.why(0, k, 400);
            sum += x.down(k % 4, k % 10, false) + x.reach(0, k % 12) + x.pay(k % 12, 0, 1) + x.town(0, 0, 400);
            sum += x.quarrel(k % 12, 5) + x.vote(4095, 7, -1) + x.counting() + x.count(k % 9) + x.image();
        }
        return sum;
    }

    public static void main(String[] args) {
        busy(new OneWire());
        long before = made();
        OneWire x = new OneWire();
        long object = made() - before;
        x.image();
        long image = made() - before - object;
        before = made();
        busy(x);
        long calls = made() - before;
        System.out.println("an object: " + object + " bytes, its image: " + image + ", some 800 calls: " + calls);
        Due.is("an object is small", object < 30000 ? 1 : 0, 1);
        Due.is("its image is small", image < 30000 ? 1 : 0, 1);
        Due.is("calls make nothing", calls < 1000 ? 1 : 0, 1);
        Due.end();
    }
}
