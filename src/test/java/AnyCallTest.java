import java.lang.management.ManagementFactory;
import java.lang.reflect.InvocationTargetException;
import java.lang.reflect.Method;
import java.lang.reflect.Modifier;
import java.util.Arrays;
import java.util.Comparator;
import java.util.Random;

/** Any call with any arguments in any state ends without an exception, and a run stays in its room. */
public final class AnyCallTest {
    private static final Bench BENCH = new Bench("AnyCallTest");
    private static final int[] EDGES = {0, 1, 2, 3, 4, 23, 24, 25, -1, -2, 255, 65535, 65536, 1 << 24, Integer.MAX_VALUE, Integer.MIN_VALUE};
    private static final String[] TEXTS = {"nop=>", "set p i;inc p=>set p i+1", "inc p=>", "sel a b c;set d 3", "set a 3;inc a;nop",
        "mul p q=>mul p q;nop;nop;nop", "xor p p=>set p 0", "mul a b;mul a b;mul a b;xor a a", "get p i;put p i=>get p i", "set", "nop=>nop;"};

    public static void main(String[] args) throws IllegalAccessException {
        Method[] methods = RuleMill.class.getDeclaredMethods();
        methods = Arrays.stream(methods).filter(m -> Modifier.isPublic(m.getModifiers())).toArray(Method[]::new);
        Arrays.sort(methods, Comparator.comparing(Method::getName));
        int thrown = 0;
        for (int seed = 0; seed < 800; seed++) {
            thrown += callAll(methods, new Random(seed));
        }
        BENCH.due("calls that threw", thrown, 0);
        room();
        BENCH.close();
    }

    private static int callAll(Method[] methods, Random random) throws IllegalAccessException {
        RuleMill mill = new RuleMill();
        int thrown = 0;
        for (int k = 0; k < 250; k++) {
            if (random.nextInt(5) == 0) {
                mill.end(0);
                Bench.lay(mill, TEXTS[random.nextInt(TEXTS.length)]);
            }
            Method method = methods[random.nextInt(methods.length)];
            boolean isSlow = method.getName().equals("same") && random.nextInt(8) > 0;
            try {
                if (!isSlow) {
                    method.invoke(mill, arguments(method, random));
                }
            } catch (InvocationTargetException e) {
                System.out.println(method + " threw " + e.getCause());
                thrown++;
            }
        }
        return thrown;
    }

    private static Object[] arguments(Method method, Random random) {
        Object[] arguments = new Object[method.getParameterCount()];
        for (int k = 0; k < arguments.length; k++) {
            int drawn = random.nextInt(3) == 0 ? EDGES[random.nextInt(EDGES.length)] : random.nextInt(6);
            boolean isFlag = method.getParameterTypes()[k] == boolean.class;
            arguments[k] = isFlag ? (Object) random.nextBoolean() : (Object) drawn;
        }
        return arguments;
    }

    /** The dearest run: all rows that an object can have; what it makes is far below 7.3 million elements. */
    private static void room() {
        long before = made();
        RuleMill mill = new RuleMill();
        for (int k = 0; k < 240; k++) {
            mill.feed(0x6e6f703d, 0x3e202020, 0x20202020, 0x20202020, 0x20202020);
            if (k % 2 == 0) {
                mill.rule();
            } else {
                mill.end(3);
                mill.program();
            }
            if (k % 40 == 39) {
                mill.drop();
                mill.mill(0);
                mill.same(0, 1);
                mill.letter(0, 0);
                mill.end(0);
            }
        }
        long made = made() - before;
        BENCH.due("bytes made by a run stay below 200,000: " + made, made < 200000 ? 1 : 0, 1);
    }

    private static long made() {
        if (ManagementFactory.getThreadMXBean() instanceof com.sun.management.ThreadMXBean bean) {
            return bean.getThreadAllocatedBytes(Thread.currentThread().getId());
        }
        return 0;
    }
}
