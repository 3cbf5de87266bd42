import java.io.IOException;
import java.lang.reflect.Method;
import java.lang.reflect.Modifier;
import java.nio.file.Files;
import java.nio.file.Path;
import java.util.HashMap;
import java.util.Map;
import java.util.regex.Matcher;
import java.util.regex.Pattern;

/** README.md holds what it says: its example is made call by call, and it names each public call. */
public final class ReadmeTest {
    private static final Bench BENCH = new Bench("ReadmeTest");
    private static final Pattern CALL = Pattern.compile("(?:int (\\w+) = )?mill\\.(\\w+)\\(([^)]*)\\); *// (-?\\d+): .*");

    public static void main(String[] args) throws ReflectiveOperationException, IOException {
        String page = Files.readString(Path.of("README.md"));
        example(page);
        names(page);
        BENCH.close();
    }

    private static void example(String page) throws ReflectiveOperationException {
        RuleMill mill = new RuleMill();
        Map<String, Integer> kept = new HashMap<>();
        String[] lines = page.substring(page.indexOf("```java\n") + 8).split("```")[0].split("\n");
        BENCH.due("first line of the example", lines[0], "RuleMill mill = new RuleMill();");
        for (int k = 1; k < lines.length; k++) {
            Matcher call = CALL.matcher(lines[k]);
            BENCH.due("a call and its answer: " + lines[k], call.matches() ? 1 : 0, 1);
            if (call.matches()) {
                int answer = answer(mill, call.group(2), call.group(3), kept);
                BENCH.due(lines[k], answer, Integer.parseInt(call.group(4)));
                kept.put(String.valueOf(call.group(1)), answer);
            }
        }
    }

    private static int answer(RuleMill mill, String name, String list, Map<String, Integer> kept) throws ReflectiveOperationException {
        String[] words = list.isEmpty() ? new String[0] : list.split(", ");
        Class<?>[] types = new Class<?>[words.length];
        Object[] numbers = new Object[words.length];
        for (int k = 0; k < words.length; k++) {
            types[k] = int.class;
            numbers[k] = kept.containsKey(words[k]) ? kept.get(words[k]) : Integer.decode(words[k]);
        }
        return (Integer) RuleMill.class.getMethod(name, types).invoke(mill, numbers);
    }

    private static void names(String page) {
        for (Method method : RuleMill.class.getDeclaredMethods()) {
            if (Modifier.isPublic(method.getModifiers())) {
                BENCH.due(method.getName() + " is named", page.contains("`" + method.getName() + "`") ? 1 : 0, 1);
            }
        }
    }
}
