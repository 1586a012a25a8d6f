import com.sun.management.ThreadMXBean;
import java.lang.management.ManagementFactory;

/** All calls of a run live in one room: the dearest ones make nothing, and 512 of them end soon. */
public final class RoomTest {
    private static final Due due = new Due();
    private static final ThreadMXBean bean = (ThreadMXBean) ManagementFactory.getThreadMXBean();

    public static void main(String[] args) {
        SungHarvest x = full();
        ask(x, 8);
        long before = bean.getCurrentThreadAllocatedBytes();
        int sum = ask(x, 32);
        long bytes = bean.getCurrentThreadAllocatedBytes() - before;
        due.holds("512 calls make nothing, but made " + bytes + " bytes (" + sum + ")", bytes < 1000);

        before = bean.getCurrentThreadAllocatedBytes();
        for (int n = 0; n < 100; n++) {
            sum += new SungHarvest().count(0);
        }
        bytes = (bean.getCurrentThreadAllocatedBytes() - before) / 100;
        due.holds("a new object is small, but has " + bytes + " bytes", bytes < 16000);
        due.is("none of these has a SINGER", new SungHarvest().count(0), 0);
        due.end("the room");
    }

    /** Six SINGERS, THE TEXT as long as it can be, five rows SEEN that are so for long. */
    private static SungHarvest full() {
        SungHarvest x = new SungHarvest();
        for (int p = 0; p < 6; p++) {
            x.singer(6 - p, p, 255 >> p, 90);
        }
        Due.village(x, "hard 1 " + "p=9|".repeat(22) + "p<9");
        x.away(5, true);
        for (int n = 0; n < 5; n++) {
            x.see(5, 12, 90);
            x.plan(0, 0);
        }
        x.image();
        return x;
    }

    /** Sixteen calls each time. */
    private static int ask(SungHarvest x, int times) {
        int sum = 0;
        for (int n = 0; n < times; n++) {
            sum += x.of(0, 7) + x.of(0, 8) + x.part(n % 8, 2) + x.part(n % 8, 3);
            sum += x.can(0, 0) + x.ends(1) + x.on(60, 0) + x.choir(255, 1);
            sum += (int) x.odds(7, 20, 0) + (int) x.mean(60, 0) + x.undo() + x.pass(60);
            sum += x.undo() + x.act(0, 2, n) + x.village() + x.image();
        }
        return sum;
    }
}
