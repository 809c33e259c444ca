import com.sun.management.ThreadMXBean;
import java.lang.management.ManagementFactory;

/** No call makes objects beyond a text's own; all calls of one run must live in one small room. */
final class ThriftTest {
    private static final ThreadMXBean MEMORY = (ThreadMXBean) ManagementFactory.getThreadMXBean();

    public static void main(String[] args) {
        rounds(new OneDraught(), 2);
        OneDraught x = new OneDraught();
        long ahead = MEMORY.getThreadAllocatedBytes(Thread.currentThread().getId());
        int calls = rounds(x, 10);
        long made = MEMORY.getThreadAllocatedBytes(Thread.currentThread().getId()) - ahead;
        Due.holds(calls + " dear calls made " + made + " bytes", made < 200000);
        ahead = MEMORY.getThreadAllocatedBytes(Thread.currentThread().getId());
        new OneDraught();
        made = MEMORY.getThreadAllocatedBytes(Thread.currentThread().getId()) - ahead;
        Due.holds("an object is made of " + made + " bytes", made < 20000);
        Due.end();
    }

    private static int rounds(OneDraught x, int many) {
        x.seed(5);
        x.deal(10);
        x.keep();
        x.sheet(0, 1, 24);
        int calls = 4;
        for (int i = 0; i < many; i++) {
            x.set(i % 8, 0, 9999);
            x.set(i % 8, 3, 1);
            x.feed(0x67757374, 0x20662a32, 0x302b3120);
            x.text();
            x.behind(0, 100, 0);
            x.still();
            x.birth(i % 8, 10, 5);
            x.smells(0, 60);
            x.snuffs(0, 60);
            x.storm(20);
            x.opened(0, 40, 1);
            x.lay(0, 2, 0);
            x.lay(1, 1, 0);
            x.run(100);
            x.check(30);
            x.back();
            calls += 16;
        }
        return calls;
    }
}
