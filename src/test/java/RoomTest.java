import com.sun.management.ThreadMXBean;
import java.lang.management.ManagementFactory;

/** What is made: an object of YarnPlier makes its rows at first, and no call makes anything more. */
public final class RoomTest {
    private static final ThreadMXBean BEAN = (ThreadMXBean) ManagementFactory.getThreadMXBean();
    private static final long MOST_BYTES = 12000;
    private static long sum;

    private static long made() {
        return BEAN.getThreadAllocatedBytes(Thread.currentThread().getId());
    }

    private static void build(YarnPlier x) {
        for (int i = 0; i < 6; i++) {
            sum += x.thread(i % 4, 9 + i, 7 * i - 20);
        }
        sum += x.part(0) + x.part(1) + x.part(2) + x.part(3) + x.ply(20);
        sum += x.part(6) + x.part(4) + x.part(6) + x.part(5) + x.ply(-30);
        sum += x.part(7) + x.part(6) + x.part(7) + x.part(5) + x.ply(40);
        for (int i = 0; i < 6; i++) {
            sum += x.set(3, i, 90000) + x.set(0, i, i) + x.set(1, i, i + 2) + x.set(2, i, 3 - i % 4) + x.back();
        }
    }

    private static void ask(YarnPlier x) {
        for (int yarn = 0; yarn < 9; yarn++) {
            sum += x.of(yarn, 7) + x.partOf(yarn, 1) + x.leaf(yarn, 0, 1) + x.torque(yarn) + x.tally(1) + x.kept(yarn, 0, 0);
            sum += x.needs(yarn, 0, 50) + x.heavy(yarn, 50) + x.balance(yarn, yarn, 1) + x.plan(yarn, 3, 70, 0) + x.can(yarn);
            sum += x.alike(yarn, 8 - yarn, 1) + x.inside(yarn) + x.make(yarn, 3) + x.lay(yarn, 3, yarn % 2) + x.job(yarn, 4) + x.film(1, 40, 8, yarn);
            sum += x.fits(1, 40, 8, yarn, 1) + x.fits(1, 40, 8, yarn, 0);
        }
        for (int k = -1; k < 9; k++) {
            sum += x.skew(k) + x.worst() + x.order(k) + x.turned() + x.count(k) + x.jobOf(k, 1) + x.do1() + x.about() + x.row(2, k) + x.put(2, 0, k) + x.get(2, 0);
        }
        sum += x.strike(8);
    }

    private static void read(YarnPlier x, int[] text) {
        for (int letter : text) {
            sum += x.feed(letter);
        }
        sum += x.read() + x.feed(65) + x.wipe() + x.image() + x.undo() + x.clear();
    }

    public static void main(String[] args) {
        int[] text = "t0,9,-12;p0,1:5;s0,400;m6,3".chars().toArray();
        YarnPlier x = new YarnPlier();
        long before = 0;
        for (int round = 0; round < 200; round++) {
            // earlier rounds and readings let the machine make what it needs itself
            if (round <= 100) {
                before = made();
            }
            build(x);
            ask(x);
            read(x, text);
        }
        long calls = made() - before;
        Due due = new Due();
        due.part("room");
        due.holds("100 rounds of calls make " + calls + " bytes", calls < 500);
        before = made();
        YarnPlier one = new YarnPlier();
        long bytes = made() - before;
        sum += one.count(0);
        due.holds("one object makes " + bytes + " bytes", bytes < MOST_BYTES);
        System.out.println("one object: " + bytes + " bytes; calls: " + calls + " bytes; sum " + sum);
        due.end();
    }
}
