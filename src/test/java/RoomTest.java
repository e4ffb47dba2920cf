import com.sun.management.ThreadMXBean;
import java.lang.management.ManagementFactory;

/** All calls live in one room: what a call makes is counted, and none makes anything. */
public final class RoomTest {
    private static final Due DUE = new Due();

    public static void main(String[] args) {
        if (!(ManagementFactory.getThreadMXBean() instanceof ThreadMXBean threads)) {
            System.out.println("what a thread makes is not told here");
            return;
        }
        TypedBlocks x = new TypedBlocks();
        all(x);
        long ahead = threads.getCurrentThreadAllocatedBytes();
        long sum = 0;
        for (int i = 0; i < 20; i++) {
            sum += all(x);
        }
        long made = threads.getCurrentThreadAllocatedBytes() - ahead;
        DUE.holds("calls make nothing: " + made + " bytes, " + sum, made < 2000);
        ahead = threads.getCurrentThreadAllocatedBytes();
        TypedBlocks y = new TypedBlocks();
        made = threads.getCurrentThreadAllocatedBytes() - ahead;
        DUE.holds("an object is small: " + made + " bytes, " + y.count(0), made < 40000);
        DUE.finish();
    }

    private static long all(TypedBlocks x) {
        long sum = x.wipe();
        for (int i = 0; i < Model.FIRST.length(); i++) {
            sum += x.write(Model.FIRST.charAt(i));
        }
        sum += x.fault() + x.lay() + x.sort(0, 0) + x.label(0, 0) + x.code(0, 0, 0) + x.keep();
        sum += x.put(0, 2, 0, 1, 2, 0) + x.add(2, 0, 6, 0, 0, 0) + x.cut(1, 1) + x.want(0, 3, 0) + x.below(0, 1);
        sum += x.check(0) + x.reason(0) + x.ahead(0, 1, 1) + x.sure() + x.joins(0) + x.might(0, 0) + x.reached();
        sum += x.mends(0, 0) + x.mends(0, 1) + x.run(5, 200, 0) + x.day(5, 20, 0) + x.undo() + x.back() + x.count(3);
        return sum;
    }
}
