import com.sun.management.ThreadMXBean;
import java.lang.management.ManagementFactory;
import java.lang.reflect.Method;

/** All that a run makes lives in one room: an object takes what it needs when it is made, and its calls make nothing. */
public final class RoomTest {
    /** The room holds 7.3 million fields and elements: one object of so many bytes fills it by less than a hundredth. */
    private static final long MOST_FOR_AN_OBJECT = 200_000;
    private static final ThreadMXBean THREADS = (ThreadMXBean) ManagementFactory.getThreadMXBean();

    public static void main(String[] args) throws Exception {
        for (int warming = 0; warming < 3; warming++) use(new PeaceRing());
        long before = bytes();
        PeaceRing ring = new PeaceRing();
        long made = bytes() - before;
        before = bytes();
        use(ring);
        long used = bytes() - before;
        System.out.println("an object takes " + made + " bytes, its calls " + used);
        if (made > MOST_FOR_AN_OBJECT || used > 2_000) System.exit(1);
        manyOddCallsEnd();
    }

    private static long bytes() {
        return THREADS.getThreadAllocatedBytes(Thread.currentThread().getId());
    }

    /** Some of each of the dearer calls. */
    private static void use(PeaceRing r) {
        for (int p = 0; p < 16; p++) r.person(p, 1);
        for (int s = 0; s < 6; s++) r.stone(10 * s, 3);
        for (int p = 0; p < 8; p++) r.post(5 * p + 20, 3, p, 20);
        r.keep();
        for (int round = 0; round < 10; round++) {
            for (int i = 0; i < 5; i++) r.feed(0x3b38_3120_656c_696dL, 8);
            r.read(round % 3);
            r.deed(round, 0, -1, 0, 0, 0);
            for (int p = 0; p < 16; p++) r.aim(p, 99);
            r.bell(0, 18);
            r.hours(10);
            r.run(0, 99, 1, 0);
            r.watch();
            r.narrow(0, 0);
            r.both(0, 16);
            r.many(13);
            r.sheet(0, 2, 40);
            r.shelf(0, 1, 0);
            r.shelf(1, 0, 0);
            r.deal(1, 2, 3);
            r.take(0, round + 1);
            r.again();
        }
    }

    /** Whatever is asked in whatever state, nothing is thrown: every call with every odd number in every place. */
    private static void manyOddCallsEnd() throws Exception {
        int[] odd = {Integer.MIN_VALUE, -1, 0, 1, 5, 16, 99, 100, 10000, Integer.MAX_VALUE};
        PeaceRing full = new PeaceRing();
        use(full);
        for (PeaceRing ring : new PeaceRing[] {new PeaceRing(), full}) {
            for (Method m : PeaceRing.class.getDeclaredMethods()) {
                if (java.lang.reflect.Modifier.isPublic(m.getModifiers())) callOddly(ring, m, odd);
            }
        }
        System.out.println("nothing was thrown");
    }

    private static void callOddly(PeaceRing ring, Method m, int[] odd) throws Exception {
        Class<?>[] types = m.getParameterTypes();
        long ways = Math.min(20_000, Math.round(Math.pow(odd.length, types.length)));
        for (long way = 0; way < ways; way++) {
            Object[] told = new Object[types.length];
            long left = way * (types.length > 4 ? 7919 : 1);
            for (int i = 0; i < types.length; i++) {
                int number = odd[(int) (left % odd.length)];
                told[i] = types[i] == long.class ? (Object) (long) number : (Object) number;
                left /= odd.length;
            }
            m.invoke(ring, told);
        }
    }
}
