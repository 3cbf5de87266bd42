import java.io.IOException;
import java.lang.reflect.Constructor;
import java.lang.reflect.Field;
import java.lang.reflect.Method;
import java.lang.reflect.Modifier;
import java.nio.file.Files;
import java.nio.file.Path;
import java.util.Arrays;
import java.util.List;
import java.util.TreeSet;
import java.util.regex.Pattern;

/** The public face of the document and no more of it, and the words that LANGUAGE.md leaves out. */
public final class FaceTest {
    private static final Bench BENCH = new Bench("FaceTest");
    private static final List<String> FACE = Arrays.asList("width(int)", "feed(int,int,int,int,int)", "end(int)", "rule()",
        "program()", "fault()", "on(int,boolean)", "told(int,int)", "wrong(int,int)", "order(int,int,int)", "size(int,int)",
        "letter(int,int)", "joined(int,int)", "part(int,int,int)", "window(int,int,int)", "meant(int,int,int,int,int)",
        "change(int,int,int)", "mill(int)", "step(int,int)", "done(int)", "run(int,int)", "same(int,int)", "differs()",
        "count(int)", "drop()");
    private static final List<String> LEFT_OUT = Arrays.asList("\\bthrow\\b", "\\bthrows\\b", "\\btry\\b", "\\bcatch\\b",
        "\\bsynchronized\\b", "\\bassert\\b", "->", "::", "^import ", "^package ", "\\bprotected\\b", "\\bnative\\b", "Exact\\(",
        "\\.equals\\(", "\\bhashCode\\b", "\\btoString\\b", "\\bSystem\\.(?!arraycopy)", "\\bThread\\b", "\\bRandom\\b");

    public static void main(String[] args) throws IOException {
        constants();
        methods();
        members();
        sizes();
        words();
        BENCH.close();
    }

    private static void constants() {
        BENCH.due("BAD", RuleMill.BAD, -1);
        BENCH.due("STATE", RuleMill.STATE, -2);
        BENCH.due("FULL", RuleMill.FULL, -3);
        BENCH.due("NONE", RuleMill.NONE, -4);
        BENCH.due("final", RuleMill.class.getModifiers() & (Modifier.PUBLIC | Modifier.FINAL), Modifier.PUBLIC | Modifier.FINAL);
    }

    private static void methods() {
        TreeSet<String> there = new TreeSet<>();
        TreeSet<String> names = new TreeSet<>();
        for (Method method : RuleMill.class.getDeclaredMethods()) {
            if (Modifier.isPublic(method.getModifiers())) {
                there.add(method.toString().replaceAll("^.*RuleMill\\.", ""));
                names.add(method.getName());
                BENCH.due("answer of " + method.getName(), method.getReturnType().getName(), "int");
            }
        }
        BENCH.due("public methods", there.toString(), new TreeSet<>(FACE).toString());
        for (Class<?> inside : RuleMill.class.getDeclaredClasses()) {
            BENCH.due(inside.getName() + " is static", Modifier.isStatic(inside.getModifiers()) ? 1 : 0, 1);
            for (Method method : inside.getDeclaredMethods()) {
                BENCH.due("no public name for " + inside.getName() + "." + method.getName(), names.contains(method.getName()) ? 1 : 0, 0);
            }
        }
    }

    private static void members() {
        TreeSet<String> open = new TreeSet<>();
        for (Field field : RuleMill.class.getDeclaredFields()) {
            if (!Modifier.isPrivate(field.getModifiers())) {
                open.add(field.getName());
            }
        }
        BENCH.due("open fields", open.toString(), "[BAD, FULL, NONE, STATE]");
        for (Method method : RuleMill.class.getDeclaredMethods()) {
            int modifiers = method.getModifiers();
            BENCH.due(method.getName() + " is public or private", Modifier.isPublic(modifiers) || Modifier.isPrivate(modifiers) ? 1 : 0, 1);
            boolean isPrivateTwin = Modifier.isPrivate(modifiers) && FACE.stream().anyMatch(f -> f.startsWith(method.getName() + "("));
            BENCH.due(method.getName() + " has no private twin", isPrivateTwin ? 1 : 0, 0);
        }
        Constructor<?>[] made = RuleMill.class.getDeclaredConstructors();
        BENCH.due("constructors", made.length, 1);
        BENCH.due("constructor's parameters", made[0].getParameterCount(), 0);
        BENCH.due("constructor is public", Modifier.isPublic(made[0].getModifiers()) ? 1 : 0, 1);
    }

    /** LANGUAGE.md, rules 5 and 11: classes, fields, parameters, and no static state that could change. */
    private static void sizes() {
        Class<?>[] inside = RuleMill.class.getDeclaredClasses();
        BENCH.due("at most twelve classes", inside.length + 1 <= 12 ? 1 : 0, 1);
        sizesOf(RuleMill.class);
        for (Class<?> one : inside) {
            sizesOf(one);
        }
    }

    private static void sizesOf(Class<?> one) {
        int fields = 0;
        for (Field field : one.getDeclaredFields()) {
            boolean isStatic = Modifier.isStatic(field.getModifiers());
            fields += isStatic ? 0 : 1;
            BENCH.due(one.getName() + "." + field.getName() + " is final if static", !isStatic || Modifier.isFinal(field.getModifiers()) ? 1 : 0, 1);
        }
        BENCH.due("at most twenty fields in " + one.getName(), fields <= 20 ? 1 : 0, 1);
        for (Method method : one.getDeclaredMethods()) {
            BENCH.due("at most seven parameters of " + method.getName(), method.getParameterCount() <= 7 ? 1 : 0, 1);
        }
    }

    private static void words() throws IOException {
        String source = Files.readString(Path.of("src/main/java/RuleMill.java"));
        String code = source.replaceAll("(?s)/\\*.*?\\*/", "").replaceAll("//.*", "");
        for (String word : LEFT_OUT) {
            BENCH.due("left out: " + word, Pattern.compile(word, Pattern.MULTILINE).matcher(code).find() ? 1 : 0, 0);
        }
    }
}
