import java.lang.management.ManagementFactory;
import java.lang.reflect.Method;
import java.lang.reflect.Modifier;
import java.util.ArrayList;
import java.util.Comparator;
import java.util.List;
import java.util.Random;

/** No call throws, whatever its arguments are, and calls make no objects. */
public final class RoomTest {
    private static final int[] ODD = {0, 0, 1, 1, 2, 3, 4, 5, 6, 7, 8, 10, 15, 20, 21, 40, 41, 60, 63, 99, 160, 255, 256, 999,
        -1, -2, 1 << 20, (1 << 20) - 1, Integer.MAX_VALUE, Integer.MIN_VALUE, Integer.MIN_VALUE + 1};
    private static int wrong = 0;

    public static void main(String[] args) throws Exception {
        for (int run = 0; run < 1000; run++) {
            anyArguments(run);
        }
        callsMakeNoObjects();
        System.out.println(wrong == 0 ? "no call threw, none made objects" : wrong + " faults");
        if (wrong != 0) {
            System.exit(1);
        }
    }

    private static List<Method> calls() {
        List<Method> calls = new ArrayList<>();
        for (Method method : LettersLeaping.class.getDeclaredMethods()) {
            if (Modifier.isPublic(method.getModifiers())) {
                calls.add(method);
            }
        }
        calls.sort(Comparator.comparing(Method::getName));
        return calls;
    }

    private static void anyArguments(int run) throws Exception {
        Random r = new Random(run);
        List<Method> calls = calls();
        LettersLeaping x = new LettersLeaping();
        if (run % 2 == 0) {
            dearest(x);
        }
        // With what dearest() takes, an object is used for fewer than 512 calls.
        for (int i = 0; i < 300; i++) {
            Method call = calls.get(r.nextInt(calls.size()));
            Object[] given = new Object[call.getParameterCount()];
            for (int k = 0; k < given.length; k++) {
                given[k] = any(call.getParameterTypes()[k], r);
            }
            try {
                call.invoke(x, given);
            } catch (java.lang.reflect.InvocationTargetException e) {
                wrong++;
                System.out.println("run " + run + ": " + call.getName() + List.of(given) + " threw " + e.getCause());
                return;
            }
        }
    }

    private static Object any(Class<?> type, Random r) {
        if (type == boolean.class) {
            return r.nextBoolean();
        }
        int v = ODD[r.nextInt(ODD.length)];
        if (type == long.class) {
            return r.nextInt(9) == 0 ? r.nextLong() : (long) v;
        }
        return r.nextInt(9) == 0 ? r.nextInt() : v;
    }

    /** As full as it can be, with the sets that take the longest search. */
    private static void dearest(LettersLeaping x) {
        for (int i = 0; i < 20; i++) {
            x.jetty(i % 2 * 5, i * 13, 1, 20 + i);
        }
        for (int i = 0; i < 6; i++) {
            x.leaper(i % 2);
        }
        for (int i = 0; i < 10; i++) {
            x.parcel(i, 60 - i, 99 - i);
        }
        for (int s = 0; s < 4; s++) {
            x.row(s, s, 40);
            for (int i = 0; i < 40; i++) {
                x.set(s, i, i * 7 % 20);
            }
        }
    }

    private static int everyCall(LettersLeaping x) {
        int sum = x.row(5, 2, 40) + x.set(5, 0, 9) + x.copy(0, 0, 0, 20, 20) + x.holds(0) + x.show(6, 3) + x.says(6, 0);
        sum += x.jetty(0, 0, 1, 0) + x.jettyOf(3, 7) + x.wet(3, true) + x.rise(3, 5) + x.lake(0, 5) + x.wind(3, 4);
        sum += x.winds(1) + x.feed(0x6C656731, 4) + x.wipe() + x.feed(0x6C656731, 4) + x.law() + x.lawOf(0, 3) + x.force(0);
        sum += x.leaper(4) + x.leaperOf(3, 1) + x.tried(3, 4, 2) + x.learnt(3) + x.learn(3) + x.risk(0, 0, 0) + x.calm(0, 0);
        sum += x.leg(3, 99) + x.round(0, 0, 20, 0) + x.best(0, 63 << 9, 999, 0) + x.team(63 << 9, 2, 3, -1) + x.safest(3, 3);
        sum += x.missed(0, 0, 20, 4, 2) + x.pilot(0, 20, 1) + x.still(0, 20) + x.firstOut(3) + x.lifts(0, 40, 1, 20);
        sum += x.parcel(0, 1, 1) + x.stops(400) + x.week(3, 1) + x.outs(3, 1) + x.seed(77) + x.begin(0, 0, 20) + x.step();
        return sum + x.under(3) + x.image() + x.back() + x.status(6) + (int) x.element(0, 3);
    }

    private static void callsMakeNoObjects() {
        if (!(ManagementFactory.getThreadMXBean() instanceof com.sun.management.ThreadMXBean)) {
            return;
        }
        com.sun.management.ThreadMXBean bean = (com.sun.management.ThreadMXBean) ManagementFactory.getThreadMXBean();
        long thread = Thread.currentThread().getId();
        LettersLeaping[] lakes = new LettersLeaping[100];
        for (int i = 0; i < lakes.length; i++) {
            lakes[i] = new LettersLeaping();
            dearest(lakes[i]);
        }
        int sum = everyCall(lakes[0]);
        bean.getThreadAllocatedBytes(thread);
        long ahead = bean.getThreadAllocatedBytes(thread);
        for (LettersLeaping lake : lakes) {
            sum += everyCall(lake) + everyCall(lake) + everyCall(lake) + everyCall(lake);
        }
        long made = bean.getThreadAllocatedBytes(thread) - ahead;
        if (made > 4096 || sum == 0) {
            wrong++;
            System.out.println("400 times every call made " + made + " bytes");
        }
    }
}
