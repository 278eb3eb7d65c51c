import com.sun.management.ThreadMXBean;
import java.lang.management.ManagementFactory;
import java.lang.reflect.InvocationTargetException;
import java.lang.reflect.Method;
import java.lang.reflect.Modifier;

/** No argument makes a call fail, and the dearest runs of calls make few objects and elements. */
public final class RoomTest {
    private static final Due DUE = new Due("RoomTest");
    private static final int MOST_CALLS = 512;
    private static final int[] EXTREMES = {
        Integer.MIN_VALUE, -10000, -1, 0, 1, 3, 7, 12, 40, 4095, Integer.MAX_VALUE};

    /** A full bench: 7 THINGS, 12 LINES, OFFERS of all KINDS, ROWS, SHEETS. */
    private static PriceBench full(boolean withOffers) {
        PriceBench bench = NetTest.withThings(7);
        for (int i = 0; i < 12; i++) {
            bench.line(i % 7, (i + 1 + i / 7) % 7, 7 * i % 50, 9 - i * 5 % 19);
        }
        for (int i = 0; i < (withOffers ? 2 : 0); i++) {
            bench.told();
            bench.tell(4 * i, 5 + i);
            bench.tree();
            bench.way(0, 6);
            bench.pairing(21);
        }
        bench.write(1);
        for (int sheet = 0; sheet < 3; sheet++) {
            bench.sheet(sheet, sheet, 40);
        }
        return bench;
    }

    private static int[] digits(int number, int many) {
        int[] arguments = new int[many];
        int rest = number;
        for (int i = 0; i < many; i++) {
            arguments[i] = EXTREMES[rest % EXTREMES.length];
            rest /= EXTREMES.length;
        }
        return arguments;
    }

    private static void extremes(Method method, boolean onFull) throws IllegalAccessException {
        int many = method.getParameterCount();
        int all = (int) Math.pow(EXTREMES.length, many);
        PriceBench bench = null;
        int failed = 0;
        for (int number = 0; number < all; number++) {
            if (bench == null || number % 400 == 0) {
                bench = onFull ? full(true) : new PriceBench();
            }
            Object[] arguments = new Object[many];
            for (int i = 0; i < many; i++) {
                arguments[i] = digits(number, many)[i];
            }
            try {
                method.invoke(bench, arguments);
            } catch (InvocationTargetException e) {
                failed++;
                System.out.println(method + " with " + java.util.Arrays.toString(arguments) + ": " + e.getCause());
            }
        }
        DUE.is(method.getName() + ": calls that failed", failed, 0);
    }

    private static long allocated() {
        return ((ThreadMXBean) ManagementFactory.getThreadMXBean()).getThreadAllocatedBytes(Thread.currentThread().getId());
    }

    /** All CHOICES and BENDS of ten TREES, worked out anew behind a change of the NET each time. */
    private static void dearestRun() {
        PriceBench bench = full(false);
        bench.window(-10000, 1, 10000, 1);
        for (int i = 0; i < 10; i++) {
            bench.tree();
        }
        for (int call = 60; call < MOST_CALLS; call += 3) {
            bench.alter(call % 12, call % 100, call % 20);
            bench.write(call % 10);
            bench.act(call % 10, 2, call);
        }
    }

    private static void room() {
        dearestRun();
        long before = allocated();
        dearestRun();
        long bytes = allocated() - before;
        System.out.println("RoomTest: the dearest run makes " + bytes + " bytes");
        DUE.holds("512 calls make less than 400,000 bytes", bytes < 400000);
        PriceBench[] benches = new PriceBench[1000];
        before = allocated();
        for (int i = 0; i < benches.length; i++) {
            benches[i] = new PriceBench();
        }
        bytes = (allocated() - before) / benches.length;
        System.out.println("RoomTest: a new object makes " + bytes + " bytes");
        DUE.holds("a new object makes less than 4,000 bytes", bytes < 4000 && benches[0] != benches[1]);
    }

    public static void main(String[] args) throws IllegalAccessException {
        for (Method method : PriceBench.class.getDeclaredMethods()) {
            if (Modifier.isPublic(method.getModifiers())) {
                extremes(method, true);
                extremes(method, false);
            }
        }
        room();
        DUE.end();
    }
}
