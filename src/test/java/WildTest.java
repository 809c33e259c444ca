import java.lang.reflect.InvocationTargetException;
import java.lang.reflect.Method;
import java.lang.reflect.Modifier;
import java.util.Arrays;

/** No call throws, whatever it is given: every argument far out, alone and beside others, in an empty and in a full hall. */
final class WildTest {
    private static final int[] FAR = {Integer.MIN_VALUE, Integer.MIN_VALUE + 1, -1000000005, -100, -1, 0, 1, 7, 8, 9, 10, 23, 24, 25, 96, 97, 9999,
        10000, Integer.MAX_VALUE - 1, Integer.MAX_VALUE};

    public static void main(String[] args) throws Exception {
        for (Method m : OneDraught.class.getDeclaredMethods()) {
            if (Modifier.isPublic(m.getModifiers())) {
                allOf(m, new OneDraught());
                allOf(m, full());
            }
        }
        Due.end();
    }

    private static OneDraught full() {
        OneDraught x = new OneDraught();
        x.deal(10);
        for (int i = 0; i < 4; i++) {
            x.sheet(i, i % 2, 24);
            x.lay(i, 1 + i % 3, i);
        }
        for (int i = 0; i < 14; i++) {
            Tape.told(x, "gust 5");
        }
        for (int i = 0; i < 60; i++) {
            x.tell(i);
        }
        for (int i = 0; i < 8; i++) {
            x.feed(0x28282828, 0x21212121, 0x21282821);
            x.set(i, 3, 1);
        }
        x.keep();
        return x;
    }

    private static void allOf(Method m, OneDraught x) throws Exception {
        int many = m.getParameterCount();
        int rounds = 1;
        for (int i = 0; i < Math.min(many, 3); i++) {
            rounds *= FAR.length;
        }
        for (int round = 0; round < rounds; round++) {
            Object[] given = new Object[many];
            int left = round;
            for (int i = 0; i < many; i++) {
                given[i] = FAR[(left + i / 3 * round) % FAR.length];
                left /= FAR.length;
            }
            try {
                m.invoke(x, given);
            } catch (InvocationTargetException e) {
                Due.holds(m.getName() + Arrays.toString(given) + " throws " + e.getCause(), false);
            }
        }
        Due.holds(m.getName(), true);
    }
}
