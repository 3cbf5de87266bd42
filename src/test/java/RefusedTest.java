import java.lang.reflect.InvocationTargetException;
import java.lang.reflect.Method;
import java.lang.reflect.Modifier;
import java.util.Arrays;
import java.util.Comparator;
import java.util.Set;

/**
 * What is refused changes nothing, and what only asks does not either: each call with each of some arguments is made on
 * one of two objects with the same way behind them, and both must tell the same of themselves afterwards.
 */
public final class RefusedTest {
    private static final Bench BENCH = new Bench("RefusedTest");
    private static final Set<String> ASKING = Set.of("fault", "told", "wrong", "order", "size", "letter", "window", "meant", "step",
        "done", "run", "differs", "count");
    private static final int[] ARGUMENTS = {-1, 0, 1, 3, 24};
    private static final int WAYS = 5;

    public static void main(String[] args) throws IllegalAccessException, InvocationTargetException {
        Method[] methods = Arrays.stream(RuleMill.class.getDeclaredMethods()).filter(m -> Modifier.isPublic(m.getModifiers()))
            .sorted(Comparator.comparing(Method::getName)).toArray(Method[]::new);
        for (int way = 0; way < WAYS; way++) {
            String due = tell(made(way));
            int refused = 0;
            for (Method method : methods) {
                refused += callWithAll(method, way, due);
            }
            BENCH.due("way " + way + " has calls that are refused", refused > 50 ? 1 : 0, 1);
        }
        BENCH.close();
    }

    private static RuleMill made(int way) {
        RuleMill mill = Bench.withWidth(way == 3 ? 3 : 2);
        if (way == 0) {
            return mill;
        }
        String[] rules = {"nop=>", "inc p=>", "set p i;inc p=>set p i+1", "sel p q q=>mov p q;nop"};
        String[] programs = {"set a 1;nop;inc a", Bench.times("sel a b b", 24), "nop;nop", "inc a"};
        for (int k = 0; k < (way == 2 ? 24 : 4); k++) {
            Bench.rule(mill, rules[k % 4]);
        }
        for (int k = 0; k < (way == 2 ? 16 : 4); k++) {
            Bench.program(mill, programs[k % 4]);
        }
        mill.mill(2);
        mill.same(0, 3);
        mill.on(1, false);
        Bench.program(mill, "set a 16");
        mill.end(0);
        Bench.lay(mill, way == 2 ? "dec d" + " ".repeat(395) : way == 4 ? "nop;x" : "dec d;nop");
        return mill;
    }

    private static int callWithAll(Method method, int way, String due) throws IllegalAccessException, InvocationTargetException {
        int places = method.getParameterCount();
        int refused = 0;
        for (int n = 0; n < Math.pow(ARGUMENTS.length, places); n++) {
            Object[] arguments = new Object[places];
            int rest = n;
            for (int k = 0; k < places; k++) {
                boolean isFlag = method.getParameterTypes()[k] == boolean.class;
                arguments[k] = isFlag ? (Object) (rest % 2 == 0) : (Object) ARGUMENTS[rest % ARGUMENTS.length];
                rest /= ARGUMENTS.length;
            }
            RuleMill mill = made(way);
            int answer = (Integer) method.invoke(mill, arguments);
            boolean isRefused = answer <= -1 && answer >= -4;
            if (isRefused || ASKING.contains(method.getName())) {
                refused += isRefused ? 1 : 0;
                BENCH.due("way " + way + ", behind " + method.getName() + Arrays.toString(arguments) + " -> " + answer, tell(mill), due);
            }
        }
        return refused;
    }

    /** All that an object tells of itself; the tape last, since reading empties it. */
    private static String tell(RuleMill mill) {
        StringBuilder told = new StringBuilder();
        for (int what = 0; what <= 5; what++) {
            told.append(mill.count(what)).append(' ');
        }
        told.append(mill.fault()).append(' ').append(mill.differs());
        for (int r = 0; r < 4; r++) {
            for (int what = 0; what <= 9; what++) {
                told.append(' ').append(mill.told(r, what));
            }
            told.append(' ').append(mill.wrong(r, 0));
        }
        for (int p = 0; p < 4; p++) {
            told.append("\n").append(mill.size(p, 0)).append(' ').append(mill.size(p, 1)).append(' ');
            for (int i = 0; i < 3; i++) {
                told.append(mill.order(p, i, 0)).append(mill.order(p, i, 1)).append(mill.order(p, i, 2));
            }
        }
        for (int k = 0; k < 3; k++) {
            told.append("\n").append(mill.step(k, 0)).append(mill.step(k, 1)).append(mill.step(k, 2));
        }
        if (mill.count(2) == 16) {
            mill.drop();
        }
        int p = mill.program();
        return told.append("\n").append(p).append(' ').append(mill.fault()).append(Bench.text(mill, p)).toString();
    }
}
