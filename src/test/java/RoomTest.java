import com.sun.management.ThreadMXBean;
import java.lang.management.ManagementFactory;

/** All of a run's calls live in one room: after the constructor a call makes nothing. */
final class RoomTest {
    private static final Due due = new Due("RoomTest");
    /** Bytes that 512 calls may make: room for what the machine makes for itself, no more. */
    private static final long SPARE = 100_000;
    private static final long OBJECT = 40_000;

    public static void main(String[] args) {
        use(new TaxOnLooks());
        ThreadMXBean meter = (ThreadMXBean) ManagementFactory.getThreadMXBean();
        long start = meter.getCurrentThreadAllocatedBytes();
        TaxOnLooks x = new TaxOnLooks();
        long made = meter.getCurrentThreadAllocatedBytes();
        long sum = use(x);
        long used = meter.getCurrentThreadAllocatedBytes();
        due.holds("answers", sum != 0);
        due.holds("a small object: " + (made - start), made - start < OBJECT);
        due.holds("calls make nothing: " + (used - made), used - made < SPARE);
        due.end();
    }

    private static long use(TaxOnLooks x) {
        long sum = 0;
        for (int i = 0; i < 7; i++) {
            sum += x.person(i, i, 9 + i, i / 2, 99, 5 * i);
        }
        String text = "balcony 3;wall 8;mite 5;reach 4;sack 2;gap 8";
        sum += x.row(0, 0, text.length());
        for (int i = 0; i < text.length(); i++) {
            sum += x.set(0, i, text.charAt(i));
        }
        sum += x.row(1, 3, 160);
        for (int round = 0; round < 12; round++) {
            sum += x.town(0) + x.fault() + x.walk(0, 35, 0) + x.stand(1, 0) + x.sacks(3, 0);
            sum += x.balconies(0) + x.fits(1, 0) + x.most(0) + x.most(1) + x.crowd(0) + x.crowd(1);
            sum += x.judge(1, 40) + x.behind(1, 40, 0) + x.done(1, 40) + x.hours(40) + x.all(0);
            sum += x.act(6, 2, 7) + x.trace(3) + x.image() + x.restore() + x.status(8) + x.row(1, 3, 160);
            sum += x.copy(0, 0, 0, 1, 9) + x.glances(0, 0) + x.duty(0, 0) + x.view(0, 5) + x.says(0, 0);
        }
        return sum;
    }
}
