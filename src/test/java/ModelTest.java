import java.nio.charset.StandardCharsets;
import java.util.Random;

/** All promises: the same calls, drawn from fixed seeds, on a RuleMill and on the Model, and the answers compared. */
public final class ModelTest {
    private static final Bench BENCH = new Bench("ModelTest");
    private static final String[] GOOD_RULES = {"nop=>", "set p i;inc p=>set p i+1", "inc p;dec p=>", "mov p q;mov q p=>mov p q",
        "set p i;set p j=>set p j", "shl p i;shl p j=>shl p i+j", "swp p q;swp p q=>", "and p p=>", "sub p p=>set p 0",
        "put p i;put q i=>put q i", "not p;not p=>", "sel p q q=>mov p q;nop", "mul p q;nop=>mul p q", "xor p p=>set p 0",
        "mov p p=>", "set p 0;add q p=>set p 0", "neg p;neg p=>", "shl p 0=>", "add p q;sub p q=>", "set p i;not p=>set p 15-i"};
    private static final String LITTER = "abdpqrsijkx019 ;;=>+-&|^ A\u00e9";

    private final Random random;
    private final RuleMill mill = new RuleMill();
    private final Model model = new Model();
    private final StringBuilder way = new StringBuilder();
    private int calls = 0;

    private ModelTest(long seed) {
        random = new Random(seed);
    }

    public static void main(String[] args) {
        int runs = args.length > 0 ? Integer.parseInt(args[0]) : 600;
        for (int seed = 0; seed < runs; seed++) {
            new ModelTest(seed).runThrough(seed);
        }
        BENCH.close();
    }

    private void runThrough(int seed) {
        due("width", mill.width(1 + seed % 3), model.width(1 + seed % 3));
        for (int k = 0; k < 512 && calls < 480; k++) {
            if (!makeCall()) {
                System.out.println("seed " + seed + ":" + way);
                return;
            }
        }
        BENCH.due("no more calls than are promised: " + calls, calls <= 512 ? 1 : 0, 1);
    }

    /** What the document promises ends with the 512th call. */
    private boolean mayGoOn() {
        return calls < 500;
    }

    private boolean due(String call, int got, int want) {
        calls++;
        way.append('\n').append(call).append(" -> ").append(got);
        BENCH.due(call, got, want);
        return got == want;
    }

    private int n(int to) {
        return random.nextInt(to);
    }

    private int near(int to) {
        return n(12) == 0 ? n(to + 4) - 2 : n(Math.max(1, to));
    }

    private String pick(String... all) {
        return all[n(all.length)];
    }

    private String blanks(int least) {
        return n(6) == 0 ? " ".repeat(least + n(3)) : " ".repeat(least);
    }

    private String number(boolean isRule, boolean second, int marks) {
        String plain = n(15) == 0 ? "" + n(120) : "" + n(n(2) == 0 ? 4 : 16);
        String term = isRule && n(2) == 0 ? pick("i", "j", "k").substring(0, 1) : plain;
        if (isRule && n(3) > 0) {
            term = "ijk".substring(0, marks).charAt(n(marks)) + "";
        }
        if (second && n(2) == 0) {
            return term + pick("+", "-", "&", "|", "^") + (n(2) == 0 ? "" + n(16) : "i");
        }
        return term;
    }

    private String orders(int count, boolean isRule, boolean second, int registers) {
        StringBuilder text = new StringBuilder();
        String letters = isRule ? "pqrs" : "abcd";
        for (int k = 0; k < count; k++) {
            int kind = n(19);
            String shape = new String[] {"n1", "2", "2", "2", "2", "2", "2", "2", "1", "1", "1", "1", "n1", "n1", "3", "n1", "n1", "0", "2"}[kind];
            text.append(k > 0 ? blanks(0) + ";" + blanks(0) : "").append(Model.NAMES.get(kind));
            for (int x = 0; x < shape.charAt(shape.length() - 1) - '0'; x++) {
                text.append(blanks(1)).append(letters.charAt(n(registers)));
            }
            if (shape.startsWith("n")) {
                text.append(blanks(1)).append(number(isRule, second, 1 + n(2)));
            }
        }
        return text.toString();
    }

    private String spoil(String text) {
        StringBuilder spoilt = new StringBuilder(text);
        for (int k = n(5) == 0 ? 1 + n(2) : 0; k > 0; k--) {
            int at = n(spoilt.length() + 1);
            int way = n(3);
            char c = LITTER.charAt(n(LITTER.length()));
            if (way == 0 || at == spoilt.length()) {
                spoilt.insert(at, c);
            } else if (way == 1) {
                spoilt.setCharAt(at, c);
            } else {
                spoilt.deleteCharAt(at);
            }
        }
        return spoilt.toString();
    }

    private String ruleText() {
        if (n(2) == 0) {
            return spoil(pick(GOOD_RULES));
        }
        int registers = 1 + n(3);
        String first = orders(n(12) == 0 ? n(6) : 1 + n(3), true, false, registers);
        String second = n(8) == 0 ? first : orders(n(10) == 0 ? n(6) : n(4), true, true, registers);
        return spoil(blanks(0) + first + blanks(0) + "=>" + blanks(0) + second + blanks(0));
    }

    /** Half of the orders are such as the good rules speak of, so that there are windows. */
    private String programText() {
        StringBuilder text = new StringBuilder(orders(n(4), false, false, 1 + n(4)));
        for (int k = n(n(8) == 0 ? 14 : 6); k > 0; k--) {
            String side = pick(GOOD_RULES).split("=>")[0];
            int turn = n(4);
            StringBuilder real = new StringBuilder();
            for (String word : side.split("(?<=[ ;])|(?=[ ;])")) {
                boolean isRegister = word.matches("[p-s]");
                real.append(isRegister ? "" + (char) ('a' + (word.charAt(0) - 'p' + turn) % 4) : word.matches("[ijk]") ? "" + n(4) : word);
            }
            text.append(text.length() > 0 ? ";" : "").append(real);
        }
        return spoil(text.toString());
    }

    private boolean lay(String text) {
        byte[] bytes = text.getBytes(StandardCharsets.ISO_8859_1);
        boolean right = true;
        for (int from = 0; from < bytes.length && right; from += 20) {
            int[] f = new int[5];
            for (int k = 0; k < 20; k++) {
                f[k / 4] |= (from + k < bytes.length ? bytes[from + k] & 255 : ' ') << 24 - k % 4 * 8;
            }
            right = due("feed of '" + text + "'", mill.feed(f[0], f[1], f[2], f[3], f[4]), model.feed(f));
        }
        if (n(3) == 0) {
            int to = n(30) == 0 ? n(420) : bytes.length;
            right = right && due("end(" + to + ")", mill.end(to), model.end(to));
        }
        return right;
    }

    private boolean makeCall() {
        int p = near(model.count(2));
        int q = near(model.count(2));
        int r = near(model.count(0));
        int i = near(Math.max(0, model.size(p, 0)));
        int what = near(4);
        switch (n(24)) {
            case 0:
            case 1:
                return (n(3) > 0 || model.count(0) < 5) && model.count(0) < 23 + n(3) && !lay(ruleText()) ? false
                    : due("rule()", mill.rule(), model.rule()) && due("fault()", mill.fault(), model.fault());
            case 2:
            case 3:
                return lay(programText()) && due("program()", mill.program(), model.program()) && due("fault()", mill.fault(), model.fault());
            case 4:
                boolean is = n(3) > 0;
                return due("on(" + r + ", " + is + ")", mill.on(r, is), model.on(r, is));
            case 5:
                return toldAll(r);
            case 6:
                int k = near(7);
                return due("wrong(" + r + ", " + k + ")", mill.wrong(r, k), model.wrong(r, k));
            case 7:
                return due("order(" + p + ", " + i + ", " + what + ")", mill.order(p, i, what), model.order(p, i, what));
            case 8:
                return due("size(" + p + ", " + what + ")", mill.size(p, what), model.size(p, what));
            case 9:
                return textOf(p, n(2) == 0 ? 0 : near(8 * Math.max(0, model.size(p, 0))));
            case 10:
                return due("joined(" + p + ", " + q + ")", mill.joined(p, q), model.joined(p, q));
            case 11:
                int to = i + near(6);
                return due("part(" + p + ", " + i + ", " + to + ")", mill.part(p, i, to), model.part(p, i, to));
            case 12:
            case 13:
                return windowsAll(p, r);
            case 14:
                int sort = near(2);
                return due("meant(" + p + ", " + i + ", " + r + ", " + sort + ", " + what + ")", mill.meant(p, i, r, sort, what), model.meant(p, i, r, sort, what));
            case 15:
                return due("change(" + p + ", " + i + ", " + r + ")", mill.change(p, i, r), model.change(p, i, r));
            case 16:
                return millAll(p);
            case 17:
                return due("done(" + p + ")", mill.done(p), model.done(p));
            case 18:
            case 19:
                int bits = n(1 << 8 * model.count(4)) + (n(20) == 0 ? n(100) : 0);
                return due("run(" + p + ", " + bits + ")", mill.run(p, bits), model.run(p, bits));
            case 20:
                return n(4) > 0 || due("same(" + p + ", " + q + ")", mill.same(p, q), model.same(p, q)) && due("differs()", mill.differs(), model.differs());
            case 21:
                int c = near(6);
                return due("count(" + c + ")", mill.count(c), model.count(c));
            case 22:
                int w = near(4);
                return due("width(" + w + ")", mill.width(w), model.width(w));
            default:
                return due("drop()", mill.drop(), model.drop());
        }
    }

    private boolean toldAll(int r) {
        boolean right = true;
        for (int what = -1; what <= 10; what++) {
            right &= due("told(" + r + ", " + what + ")", mill.told(r, what), model.told(r, what));
        }
        return right;
    }

    private boolean textOf(int p, int from) {
        boolean right = true;
        for (int i = from; i < from + 30 && right && mayGoOn(); i++) {
            right = due("letter(" + p + ", " + i + ")", mill.letter(p, i), model.letter(p, i));
        }
        return right;
    }

    private boolean windowsAll(int p, int r) {
        boolean right = true;
        int orders = model.size(p, 0);
        for (int i = -1; i <= orders && right && mayGoOn(); i++) {
            right = due("window(" + p + ", " + i + ", " + r + ")", mill.window(p, i, r), model.window(p, i, r));
            for (int k = -1; k < 5 && right && model.window(p, i, r) == 1 && mayGoOn(); k++) {
                right = due("meant(.., 0, " + k + ")", mill.meant(p, i, r, 0, k), model.meant(p, i, r, 0, k))
                    && due("meant(.., 1, " + k + ")", mill.meant(p, i, r, 1, k), model.meant(p, i, r, 1, k));
            }
        }
        return right;
    }

    private boolean millAll(int p) {
        boolean right = due("mill(" + p + ")", mill.mill(p), model.mill(p));
        for (int k = -1; k <= model.count(5) && right && mayGoOn(); k++) {
            for (int what = n(9) == 0 ? -1 : 0; what <= (n(9) == 0 ? 3 : 2); what++) {
                right &= due("step(" + k + ", " + what + ")", mill.step(k, what), model.step(k, what));
            }
        }
        return right && textOf(p, 0);
    }
}
