import java.util.ArrayList;
import java.util.Arrays;
import java.util.HashMap;
import java.util.List;
import java.util.Map;
import java.util.regex.Matcher;
import java.util.regex.Pattern;

/** The document once more, written with other means than RuleMill (words of text, maps, exceptions), to be compared. */
final class Model {
    static final int BAD = -1, STATE = -2, FULL = -3, NONE = -4;
    static final List<String> NAMES = Arrays.asList("set", "mov", "add", "sub", "and", "or", "xor", "mul", "inc", "dec",
        "not", "neg", "shl", "shr", "sel", "get", "put", "nop", "swp");
    private static final String[] SHAPES = {"xn", "xx", "xx", "xx", "xx", "xx", "xx", "xx", "x", "x",
        "x", "x", "xn", "xn", "xxx", "xn", "xn", "", "xx"};
    private static final int[] PRICES = {2, 2, 3, 3, 3, 3, 3, 6, 1, 1, 1, 2, 2, 2, 4, 4, 4, 1, 3};

    /** An order as words: its name, then letters of registers, numbers, marks or sums. */
    record Order(List<String> words) {
        String name() {
            return words.get(0);
        }

        String shape() {
            return SHAPES[NAMES.indexOf(name())];
        }
    }

    static final class Rule {
        List<Order> first;
        List<Order> second;
        List<String> registers = new ArrayList<>();
        List<String> marks = new ArrayList<>();
        List<Integer> tops = new ArrayList<>();
        boolean cells;
        long all;
        int alike;
        int[] unlike;
        int changed;
        boolean on = true;

        int gain() {
            return price(first) - price(second);
        }

        boolean sound() {
            return alike == all && gain() > 0;
        }
    }

    private static final class Fault extends Exception {
        private static final long serialVersionUID = 1L;
        final int kind;
        final int place;

        Fault(int kind, int place) {
            this.kind = kind;
            this.place = place;
        }
    }

    private int width = 2;
    private String tape = "";
    private int latestFault = 0;
    private final List<Rule> rules = new ArrayList<>();
    private final List<List<Order>> programs = new ArrayList<>();
    private List<int[]> steps = new ArrayList<>();
    private int difference = NONE;

    private static int price(List<Order> orders) {
        int all = 0;
        for (Order order : orders) {
            all += PRICES[NAMES.indexOf(order.name())];
        }
        return all;
    }

    // ---- reading

    private String text;
    private int place;
    private Rule reading;
    private boolean secondSide;

    private boolean eat(String regex) {
        Matcher m = Pattern.compile(regex).matcher(text).region(place, text.length());
        if (!m.lookingAt()) {
            return false;
        }
        place = m.end();
        return true;
    }

    private String peek(String regex) {
        Matcher m = Pattern.compile(regex).matcher(text).region(place, text.length());
        return m.lookingAt() ? m.group() : "";
    }

    private List<Order> readRow(int most, String close) throws Fault {
        List<Order> row = new ArrayList<>();
        do {
            eat(" *");
            String name = peek("[a-zA-Z]*");
            if (!NAMES.contains(name)) {
                throw new Fault(1, place);
            }
            if (row.size() == most) {
                throw new Fault(4, place);
            }
            eat(name);
            row.add(readOrder(name));
            eat(" *");
        } while (eat(";"));
        if (!eat(close)) {
            throw new Fault(1, place);
        }
        return row;
    }

    private Order readOrder(String name) throws Fault {
        List<String> words = new ArrayList<>(List.of(name));
        for (char c : SHAPES[NAMES.indexOf(name)].toCharArray()) {
            if (!eat(" +")) {
                throw new Fault(1, place);
            }
            words.add(c == 'x' ? readLetter(reading == null ? "[a-d]" : "[p-s]", reading == null ? null : reading.registers) : readNumber(name));
        }
        return new Order(words);
    }

    private String readLetter(String allowed, List<String> known) throws Fault {
        String word = peek("[a-zA-Z]*");
        if (!word.matches(allowed)) {
            throw new Fault(1, place);
        }
        if (known != null && !known.contains(word)) {
            if (secondSide) {
                throw new Fault(3, place);
            }
            known.add(word);
        }
        eat(word);
        return word;
    }

    private String readTerm() throws Fault {
        String figures = peek("[0-9]*");
        if (figures.isEmpty()) {
            if (reading == null) {
                throw new Fault(1, place);
            }
            return readLetter("[i-k]", reading.marks);
        }
        if (figures.length() > 2 || Integer.parseInt(figures) > 15) {
            throw new Fault(2, place);
        }
        eat(figures);
        return figures;
    }

    private String readNumber(String name) throws Fault {
        String left = readTerm();
        String sign = secondSide ? peek("[-+&|^]") : "";
        if (!sign.isEmpty()) {
            place++;
            return left + sign + readTerm();
        }
        return Character.isDigit(left.charAt(0)) ? "" + kept(name, Integer.parseInt(left)) : left;
    }

    private int kept(String name, int n) {
        switch (name) {
            case "set":
                return Math.floorMod(n, (int) Math.pow(2, width));
            case "get":
            case "put":
                return Math.floorMod(n, 4);
            default:
                return Math.min(Math.floorMod(n, 16), width);
        }
    }

    private int top(String name) {
        return name.equals("set") ? (int) Math.pow(2, width) - 1 : name.startsWith("sh") ? width : 3;
    }

    // ---- running

    private int worked(String number, Map<String, Integer> marks) {
        Matcher m = Pattern.compile("([0-9]+|[i-k])(?:([-+&|^])([0-9]+|[i-k]))?").matcher(number);
        m.matches();
        int left = Character.isDigit(m.group(1).charAt(0)) ? Integer.parseInt(m.group(1)) : marks.get(m.group(1));
        if (m.group(2) == null) {
            return left;
        }
        int right = Character.isDigit(m.group(3).charAt(0)) ? Integer.parseInt(m.group(3)) : marks.get(m.group(3));
        switch (m.group(2)) {
            case "+":
                return left + right;
            case "-":
                return left - right;
            case "&":
                return left & right;
            case "|":
                return left | right;
            default:
                return left ^ right;
        }
    }

    private List<Order> with(List<Order> side, Map<String, String> registers, Map<String, Integer> marks) {
        List<Order> out = new ArrayList<>();
        for (Order order : side) {
            List<String> words = new ArrayList<>(List.of(order.name()));
            for (int k = 0; k < order.shape().length(); k++) {
                String word = order.words().get(k + 1);
                words.add(order.shape().charAt(k) == 'x' ? registers.get(word) : "" + kept(order.name(), worked(word, marks)));
            }
            out.add(new Order(words));
        }
        return out;
    }

    private void obey(Order order, int[] words) {
        int base = (int) Math.pow(2, width);
        int[] w = new int[4];
        for (int k = 1; k < order.words().size(); k++) {
            String word = order.words().get(k);
            w[k] = Character.isDigit(word.charAt(0)) ? Integer.parseInt(word) : word.charAt(0) - 'a';
        }
        int x = words[w[1]];
        int y = words[Math.min(w[2], 7)];
        int now = x;
        switch (order.name()) {
            case "set": now = w[2]; break;
            case "mov": now = y; break;
            case "add": now = x + y; break;
            case "sub": now = x - y; break;
            case "and": now = x & y; break;
            case "or": now = x | y; break;
            case "xor": now = x ^ y; break;
            case "mul": now = x * y; break;
            case "inc": now = x + 1; break;
            case "dec": now = x - 1; break;
            case "not": now = base - 1 - x; break;
            case "neg": now = base - x; break;
            case "shl": now = x * (int) Math.pow(2, w[2]); break;
            case "shr": now = x / (int) Math.pow(2, w[2]); break;
            case "sel": now = x == 0 ? words[w[3]] : y; break;
            case "get": now = words[4 + w[2]]; break;
            case "put": words[4 + w[2]] = x; break;
            case "swp": now = y; words[w[2]] = x; break;
            default: return;
        }
        words[w[1]] = Math.floorMod(now, base);
    }

    private int outcome(List<Order> orders, int bits) {
        int[] words = new int[8];
        int base = (int) Math.pow(2, width);
        int rest = bits;
        for (int k = 0; k < 8; k++) {
            words[k] = rest % base;
            rest /= base;
        }
        for (Order order : orders) {
            obey(order, words);
        }
        int told = 0;
        for (int k = 7; k >= 0; k--) {
            told = told * base + words[k];
        }
        return told;
    }

    // ---- rules tried

    private void measure(Rule rule) {
        int base = (int) Math.pow(2, width);
        List<Order> both = new ArrayList<>(rule.first);
        both.addAll(rule.second);
        rule.cells = both.stream().anyMatch(o -> o.name().equals("get") || o.name().equals("put"));
        rule.tops = new ArrayList<>();
        for (int k = 0; k < rule.registers.size() + (rule.cells ? 4 : 0); k++) {
            rule.tops.add(base - 1);
        }
        for (String mark : rule.marks) {
            int least = 99;
            for (Order order : rule.first) {
                if (order.words().size() == 3 && order.words().get(2).equals(mark)) {
                    least = Math.min(least, top(order.name()));
                }
            }
            rule.tops.add(least);
        }
        rule.all = 1;
        for (int top : rule.tops) {
            rule.all *= top + 1;
        }
    }

    private void tryAll(Rule rule, int[] numbers, int k) {
        if (k < numbers.length) {
            for (int n = 0; n <= rule.tops.get(k); n++) {
                numbers[k] = n;
                tryAll(rule, numbers, k + 1);
            }
            return;
        }
        Map<String, String> letters = new HashMap<>();
        Map<String, Integer> marks = new HashMap<>();
        int bits = 0;
        int at = 0;
        for (String register : rule.registers) {
            bits |= numbers[at] << at * width;
            letters.put(register, "" + (char) ('a' + at));
            at++;
        }
        for (int c = 0; rule.cells && c < 4; c++) {
            bits |= numbers[at] << (4 + c) * width;
            at++;
        }
        for (String mark : rule.marks) {
            marks.put(mark, numbers[at]);
            at++;
        }
        if (outcome(with(rule.first, letters, marks), bits) == outcome(with(rule.second, letters, marks), bits)) {
            rule.alike++;
        } else if (rule.unlike == null) {
            rule.unlike = numbers.clone();
        }
    }

    // ---- windows

    private record Window(Map<String, String> registers, Map<String, Integer> marks) {
    }

    private Window find(List<Order> program, int i, Rule rule) {
        int size = rule.first.size();
        if (i + size > program.size() || program.size() - size + rule.second.size() > 24) {
            return null;
        }
        Window window = new Window(new HashMap<>(), new HashMap<>());
        for (int k = 0; k < size; k++) {
            Order mine = rule.first.get(k);
            Order its = program.get(i + k);
            if (!mine.name().equals(its.name())) {
                return null;
            }
            for (int w = 1; w < mine.words().size(); w++) {
                String word = mine.words().get(w);
                String there = its.words().get(w);
                if (mine.shape().charAt(w - 1) == 'x') {
                    window.registers().putIfAbsent(word, there);
                    if (!window.registers().get(word).equals(there)) {
                        return null;
                    }
                } else if (Character.isDigit(word.charAt(0))) {
                    if (!word.equals(there)) {
                        return null;
                    }
                } else {
                    window.marks().putIfAbsent(word, Integer.parseInt(there));
                    if (window.marks().get(word) != Integer.parseInt(there)) {
                        return null;
                    }
                }
            }
        }
        return window.registers().values().stream().distinct().count() == window.registers().size() ? window : null;
    }

    private void put(List<Order> program, int i, Rule rule, Window window) {
        for (int k = 0; k < rule.first.size(); k++) {
            program.remove(i);
        }
        program.addAll(i, with(rule.second, window.registers(), window.marks()));
        rule.changed++;
    }

    private int[] next(List<Order> program) {
        for (int i = 0; i < program.size(); i++) {
            for (int r = 0; r < rules.size(); r++) {
                Rule rule = rules.get(r);
                if (rule.on && rule.sound() && find(program, i, rule) != null) {
                    return new int[] {i, r};
                }
            }
        }
        return null;
    }

    private static String written(List<Order> program) {
        List<String> parts = new ArrayList<>();
        for (Order order : program) {
            parts.add(String.join(" ", order.words()));
        }
        return String.join(";", parts);
    }

    // ---- the face

    private boolean noRule(int r) {
        return r < 0 || r >= rules.size();
    }

    private boolean noProgram(int p) {
        return p < 0 || p >= programs.size();
    }

    private boolean noPlace(int p, int i) {
        return noProgram(p) || i < 0 || i >= programs.get(p).size();
    }

    int width(int w) {
        if (w < 1 || w > 3) {
            return BAD;
        }
        if (!rules.isEmpty() || !programs.isEmpty()) {
            return STATE;
        }
        int before = width;
        width = w;
        return before;
    }

    int feed(int... five) {
        if (tape.length() > 380) {
            return FULL;
        }
        StringBuilder more = new StringBuilder(tape);
        for (int four : five) {
            more.append((char) (four >>> 24)).append((char) (four >>> 16 & 255)).append((char) (four >>> 8 & 255)).append((char) (four & 255));
        }
        tape = more.toString();
        return tape.length();
    }

    int end(int n) {
        if (n < 0 || n > tape.length()) {
            return BAD;
        }
        int before = tape.length();
        tape = tape.substring(0, n);
        return before;
    }

    private void begin(Rule rule) {
        text = tape;
        tape = "";
        place = 0;
        reading = rule;
        secondSide = false;
        latestFault = 0;
    }

    int rule() {
        if (rules.size() == 24) {
            return FULL;
        }
        Rule rule = new Rule();
        begin(rule);
        try {
            rule.first = readRow(4, "=>");
            secondSide = true;
            rule.second = eat(" *$") ? new ArrayList<>() : readRow(4, "$");
            measure(rule);
            if (rule.all > 70000) {
                throw new Fault(5, 0);
            }
        } catch (Fault f) {
            latestFault = f.kind;
            return -10 - f.place;
        }
        tryAll(rule, new int[rule.tops.size()], 0);
        rules.add(rule);
        return rules.size() - 1;
    }

    int program() {
        if (programs.size() == 16) {
            return FULL;
        }
        begin(null);
        try {
            programs.add(eat(" *$") ? new ArrayList<>() : readRow(24, "$"));
        } catch (Fault f) {
            latestFault = f.kind;
            return -10 - f.place;
        }
        return programs.size() - 1;
    }

    int fault() {
        return latestFault;
    }

    int on(int r, boolean is) {
        if (noRule(r)) {
            return BAD;
        }
        int before = rules.get(r).on ? 1 : 0;
        rules.get(r).on = is;
        return before;
    }

    int told(int r, int what) {
        if (noRule(r) || what < 0 || what > 9) {
            return BAD;
        }
        Rule rule = rules.get(r);
        int[] all = {rule.sound() ? 1 : 0, rule.gain(), (int) rule.all, rule.alike, rule.first.size(), rule.second.size(),
            rule.registers.size(), rule.marks.size(), rule.changed, rule.on ? 1 : 0};
        return all[what];
    }

    int wrong(int r, int i) {
        if (noRule(r) || i < 0 || i >= rules.get(r).tops.size()) {
            return BAD;
        }
        return rules.get(r).unlike == null ? NONE : rules.get(r).unlike[i];
    }

    int order(int p, int i, int what) {
        if (noPlace(p, i) || what < 0 || what > 3) {
            return BAD;
        }
        Order order = programs.get(p).get(i);
        if (what == 0) {
            return NAMES.indexOf(order.name());
        }
        if (what >= order.words().size()) {
            return 0;
        }
        char c = order.words().get(what).charAt(0);
        return Character.isDigit(c) ? c - '0' : c - 'a';
    }

    int size(int p, int what) {
        if (noProgram(p) || what < 0 || what > 1) {
            return BAD;
        }
        return what == 0 ? programs.get(p).size() : price(programs.get(p));
    }

    int letter(int p, int i) {
        if (noProgram(p) || i < 0 || i > written(programs.get(p)).length()) {
            return BAD;
        }
        String all = written(programs.get(p));
        return i == all.length() ? 0 : all.charAt(i);
    }

    int joined(int p, int q) {
        if (noProgram(p) || noProgram(q)) {
            return BAD;
        }
        List<Order> both = new ArrayList<>(programs.get(p));
        both.addAll(programs.get(q));
        if (programs.size() == 16 || both.size() > 24) {
            return FULL;
        }
        programs.add(both);
        return programs.size() - 1;
    }

    int part(int p, int from, int to) {
        if (noProgram(p) || from < 0 || to < from || to > programs.get(p).size()) {
            return BAD;
        }
        if (programs.size() == 16) {
            return FULL;
        }
        programs.add(new ArrayList<>(programs.get(p).subList(from, to)));
        return programs.size() - 1;
    }

    int window(int p, int i, int r) {
        if (noPlace(p, i) || noRule(r)) {
            return BAD;
        }
        return find(programs.get(p), i, rules.get(r)) == null ? 0 : 1;
    }

    int meant(int p, int i, int r, int sort, int k) {
        if (noPlace(p, i) || noRule(r) || sort < 0 || sort > 1) {
            return BAD;
        }
        Rule rule = rules.get(r);
        Window window = find(programs.get(p), i, rule);
        List<String> names = sort == 0 ? rule.registers : rule.marks;
        if (window == null || k < 0 || k >= names.size()) {
            return NONE;
        }
        return sort == 0 ? window.registers().get(names.get(k)).charAt(0) - 'a' : window.marks().get(names.get(k));
    }

    int change(int p, int i, int r) {
        if (noPlace(p, i) || noRule(r)) {
            return BAD;
        }
        Window window = find(programs.get(p), i, rules.get(r));
        if (window == null || !rules.get(r).sound()) {
            return STATE;
        }
        put(programs.get(p), i, rules.get(r), window);
        return programs.get(p).size();
    }

    int mill(int p) {
        if (noProgram(p)) {
            return BAD;
        }
        steps = new ArrayList<>();
        List<Order> program = programs.get(p);
        for (int[] found = next(program); found != null; found = next(program)) {
            Rule rule = rules.get(found[1]);
            put(program, found[0], rule, find(program, found[0], rule));
            steps.add(new int[] {found[0], found[1], price(program)});
        }
        return steps.size();
    }

    int step(int k, int what) {
        return k < 0 || k >= steps.size() || what < 0 || what > 2 ? BAD : steps.get(k)[what];
    }

    int done(int p) {
        return noProgram(p) ? BAD : next(programs.get(p)) == null ? 1 : 0;
    }

    int run(int p, int bits) {
        return noProgram(p) || bits < 0 || bits >= Math.pow(2, 8 * width) ? BAD : outcome(programs.get(p), bits);
    }

    int same(int p, int q) {
        if (noProgram(p) || noProgram(q)) {
            return BAD;
        }
        if (width == 3) {
            return STATE;
        }
        for (int bits = 0; bits < Math.pow(2, 8 * width); bits++) {
            if (outcome(programs.get(p), bits) != outcome(programs.get(q), bits)) {
                difference = bits;
                return 0;
            }
        }
        return 1;
    }

    int differs() {
        return difference;
    }

    int count(int what) {
        switch (what) {
            case 0:
                return rules.size();
            case 1:
                return (int) rules.stream().filter(Rule::sound).count();
            case 2:
                return programs.size();
            case 3:
                return tape.length();
            case 4:
                return width;
            case 5:
                return steps.size();
            default:
                return BAD;
        }
    }

    int drop() {
        if (programs.isEmpty()) {
            return NONE;
        }
        programs.remove(programs.size() - 1);
        return programs.size();
    }
}
