/**
 * A bench for rules that make programs of a small machine cheaper. The promises it keeps are numbered in the
 * project's document; the names here follow its terms (orders, registers, cells, marks, windows, steps).
 */
public final class RuleMill {
    public static final int BAD = -1, STATE = -2, FULL = -3, NONE = -4;

    private static final int MOST_BYTES = 400;
    private static final int MOST_RULES = 24;
    private static final int MOST_PROGRAMS = 16;
    private static final int MOST_ORDERS = 24;
    private static final int MOST_SIDE_ORDERS = 4;
    private static final int MOST_ASSIGNMENTS = 70000;
    /** Each step lowers the price by 1 at least, and no program costs more than 24 orders of price 6. */
    private static final int MOST_STEPS = 144;
    private static final int REGISTERS = 4;
    private static final int CELLS = 4;
    private static final int MARKS = 3;
    private static final int MOST_WIDTH = 3;

    private static final int SET = 0, MOV = 1, ADD = 2, SUB = 3, AND = 4, OR = 5, XOR = 6, MUL = 7, INC = 8, DEC = 9;
    private static final int NOT = 10, NEG = 11, SHL = 12, SHR = 13, SEL = 14, GET = 15, PUT = 16, NOP = 17, SWP = 18;
    private static final int KINDS = 19;
    /** Three bytes for each kind of order, a blank behind the one name that is shorter. */
    private static final String NAMES = "setmovaddsubandor xormulincdecnotnegshlshrselgetputnopswp";
    private static final int NAME_BYTES = 3;
    private static final int[] PRICES = {2, 2, 3, 3, 3, 3, 3, 6, 1, 1, 1, 2, 2, 2, 4, 4, 4, 1, 3};
    private static final int[] REGISTERS_OF = {1, 2, 2, 2, 2, 2, 2, 2, 1, 1, 1, 1, 1, 1, 3, 1, 1, 0, 2};

    /** What is kept of an order: its kind, what belongs to it (three), and the rest of a sum: sign, right term. */
    private static final int KIND = 0, NUMBER = 2, SIGN = 4, RIGHT = 5, FIELDS = 6;
    /** A term from here on is a mark; below it, a number. */
    private static final int FIRST_MARK = 16;

    private static final int CAN_NOT_STAND = 1, NO_SUCH_NUMBER = 2, NOT_IN_FIRST_SIDE = 3, TOO_MANY_ORDERS = 4;
    private static final int TOO_MANY_ASSIGNMENTS = 5;
    private static final int FAULT_BASE = -10;

    private final Reader reader = new Reader();
    private final Tape tape = reader.tape;
    private final Machine machine = new Machine();
    private final Trial trial = new Trial();
    private final Binding binding = new Binding();
    private final Row piece = new Row(MOST_SIDE_ORDERS);
    private final Steps steps = new Steps();
    private final Rule[] rules = new Rule[MOST_RULES];
    private final Row[] programs = new Row[MOST_PROGRAMS];
    private int ruleCount = 0;
    private int programCount = 0;
    private int width = 2;
    private int latestFault = 0;
    private int latestDifference = NONE;

    public RuleMill() {
    }

    public int width(int w) {
        if (w < 1 || w > MOST_WIDTH) {
            return BAD;
        }
        if (ruleCount > 0 || programCount > 0) {
            return STATE;
        }
        int before = width;
        width = w;
        return before;
    }

    public int feed(int a, int b, int c, int d, int e) {
        if (!tape.hasRoomForFive()) {
            return FULL;
        }
        tape.append(a);
        tape.append(b);
        tape.append(c);
        tape.append(d);
        tape.append(e);
        return tape.length;
    }

    public int end(int n) {
        if (n < 0 || n > tape.length) {
            return BAD;
        }
        int before = tape.length;
        tape.length = n;
        return before;
    }

    public int rule() {
        if (ruleCount >= MOST_RULES) {
            return FULL;
        }
        Rule fresh = freshRule();
        reader.readRule(fresh, width);
        tape.length = 0;
        latestFault = reader.fault;
        if (latestFault == 0 && fresh.measure(width) > MOST_ASSIGNMENTS) {
            latestFault = TOO_MANY_ASSIGNMENTS;
        }
        if (latestFault != 0) {
            return FAULT_BASE - reader.faultPlace;
        }
        trial.tryOut(fresh, width);
        ruleCount++;
        return ruleCount - 1;
    }

    public int program() {
        if (programCount >= MOST_PROGRAMS) {
            return FULL;
        }
        Row fresh = freshProgram();
        reader.readProgram(fresh, width);
        tape.length = 0;
        latestFault = reader.fault;
        if (latestFault != 0) {
            return FAULT_BASE - reader.faultPlace;
        }
        programCount++;
        return programCount - 1;
    }

    public int fault() {
        return latestFault;
    }

    public int on(int r, boolean is) {
        Rule rule = ruleAt(r);
        if (rule == null) {
            return BAD;
        }
        int before = asNumber(rule.isOn);
        rule.isOn = is;
        return before;
    }

    public int told(int r, int what) {
        Rule rule = ruleAt(r);
        if (rule == null) {
            return BAD;
        }
        switch (what) {
            case 0:
                return asNumber(rule.isSound);
            case 1:
                return rule.gain();
            case 2:
                return rule.assignments;
            case 3:
                return rule.alike;
            case 4:
                return rule.first.length;
            case 5:
                return rule.second.length;
            case 6:
                return rule.registers;
            case 7:
                return rule.marks;
            case 8:
                return rule.changes;
            case 9:
                return asNumber(rule.isOn);
            default:
                return BAD;
        }
    }

    public int wrong(int r, int i) {
        Rule rule = ruleAt(r);
        if (rule == null || i < 0 || i >= rule.numbers || i >= rule.firstUnlike.length) {
            return BAD;
        }
        return rule.alike == rule.assignments ? NONE : rule.firstUnlike[i];
    }

    public int order(int p, int i, int what) {
        Row program = programAt(p);
        if (program == null || !program.has(i) || what < 0 || what > 3) {
            return BAD;
        }
        return program.at(i, what);
    }

    public int size(int p, int what) {
        Row program = programAt(p);
        if (program == null || what < 0 || what > 1) {
            return BAD;
        }
        return what == 0 ? program.length : program.price();
    }

    public int letter(int p, int i) {
        Row program = programAt(p);
        if (program == null || i < 0) {
            return BAD;
        }
        return program.textByte(i);
    }

    public int joined(int p, int q) {
        Row head = programAt(p);
        Row tail = programAt(q);
        if (head == null || tail == null) {
            return BAD;
        }
        if (programCount >= MOST_PROGRAMS || head.length + tail.length > MOST_ORDERS) {
            return FULL;
        }
        Row fresh = freshProgram();
        fresh.append(head, 0, head.length);
        fresh.append(tail, 0, tail.length);
        programCount++;
        return programCount - 1;
    }

    public int part(int p, int from, int to) {
        Row whole = programAt(p);
        if (whole == null || from < 0 || from > to || to > whole.length) {
            return BAD;
        }
        if (programCount >= MOST_PROGRAMS) {
            return FULL;
        }
        freshProgram().append(whole, from, to);
        programCount++;
        return programCount - 1;
    }

    public int window(int p, int i, int r) {
        Row program = programAt(p);
        Rule rule = ruleAt(r);
        if (program == null || !program.has(i) || rule == null) {
            return BAD;
        }
        return asNumber(binding.finds(program, i, rule));
    }

    public int meant(int p, int i, int r, int sort, int k) {
        Row program = programAt(p);
        Rule rule = ruleAt(r);
        if (program == null || !program.has(i) || rule == null || sort < 0 || sort > 1) {
            return BAD;
        }
        int there = sort == 0 ? rule.registers : rule.marks;
        if (k < 0 || k >= there || !binding.finds(program, i, rule)) {
            return NONE;
        }
        return sort == 0 ? binding.register(k) : binding.number(k);
    }

    public int change(int p, int i, int r) {
        Row program = programAt(p);
        Rule rule = ruleAt(r);
        if (program == null || !program.has(i) || rule == null) {
            return BAD;
        }
        if (!rule.isSound || !binding.finds(program, i, rule)) {
            return STATE;
        }
        putSecondSide(program, i, rule);
        return program.length;
    }

    public int mill(int p) {
        Row program = programAt(p);
        if (program == null) {
            return BAD;
        }
        steps.count = 0;
        for (int k = 0; k < MOST_STEPS; k++) {
            int found = firstWindow(program);
            if (found < 0) {
                break;
            }
            takeStep(program, found / MOST_RULES, found % MOST_RULES);
        }
        return steps.count;
    }

    public int step(int k, int what) {
        if (k < 0 || k >= steps.count || what < 0 || what >= Steps.TOLD) {
            return BAD;
        }
        return steps.told[k * Steps.TOLD + what];
    }

    public int done(int p) {
        Row program = programAt(p);
        if (program == null) {
            return BAD;
        }
        return asNumber(firstWindow(program) < 0);
    }

    public int run(int p, int bits) {
        Row program = programAt(p);
        if (program == null || bits < 0 || bits >= 1 << (REGISTERS + CELLS) * width) {
            return BAD;
        }
        return machine.outcome(program, bits, width);
    }

    public int same(int p, int q) {
        Row one = programAt(p);
        Row other = programAt(q);
        if (one == null || other == null) {
            return BAD;
        }
        if (width == MOST_WIDTH) {
            return STATE;
        }
        int least = leastDifference(one, other);
        if (least == NONE) {
            return 1;
        }
        latestDifference = least;
        return 0;
    }

    public int differs() {
        return latestDifference;
    }

    public int count(int what) {
        switch (what) {
            case 0:
                return ruleCount;
            case 1:
                return soundRules();
            case 2:
                return programCount;
            case 3:
                return tape.length;
            case 4:
                return width;
            case 5:
                return steps.count;
            default:
                return BAD;
        }
    }

    public int drop() {
        if (programCount == 0) {
            return NONE;
        }
        programCount--;
        return programCount;
    }

    private Rule ruleAt(int r) {
        return r >= 0 && r < ruleCount && r < rules.length ? rules[r] : null;
    }

    private Row programAt(int p) {
        return p >= 0 && p < programCount && p < programs.length ? programs[p] : null;
    }

    /** A place once made is used again: a text with a fault, or a drop(), costs no new rows. */
    private Rule freshRule() {
        Rule fresh = ruleCount < rules.length ? rules[ruleCount] : null;
        if (fresh == null) {
            fresh = new Rule();
        }
        if (ruleCount < rules.length) {
            rules[ruleCount] = fresh;
        }
        fresh.clear();
        return fresh;
    }

    private Row freshProgram() {
        Row fresh = programCount < programs.length ? programs[programCount] : null;
        if (fresh == null) {
            fresh = new Row(MOST_ORDERS);
        }
        if (programCount < programs.length) {
            programs[programCount] = fresh;
        }
        fresh.length = 0;
        return fresh;
    }

    private int soundRules() {
        int sound = 0;
        for (int r = 0; r < ruleCount; r++) {
            Rule rule = ruleAt(r);
            if (rule != null && rule.isSound) {
                sound++;
            }
        }
        return sound;
    }

    /** Place * MOST_RULES + rule of the window that milling takes next, or NONE; it leaves its binding behind. */
    private int firstWindow(Row program) {
        for (int i = 0; i < program.length; i++) {
            for (int r = 0; r < ruleCount; r++) {
                Rule rule = ruleAt(r);
                if (rule != null && rule.isOn && rule.isSound && binding.finds(program, i, rule)) {
                    return i * MOST_RULES + r;
                }
            }
        }
        return NONE;
    }

    private void takeStep(Row program, int place, int r) {
        Rule rule = ruleAt(r);
        if (rule != null) {
            putSecondSide(program, place, rule);
            steps.add(place, r, program.price());
        }
    }

    /** The binding must be that of the window that is changed. */
    private void putSecondSide(Row program, int place, Rule rule) {
        piece.writeOut(rule.second, binding, width);
        program.replace(place, rule.first.length, piece);
        rule.changes++;
    }

    /** What neither program names stays as it was, so the least difference has 0 there, and those bits alone are tried. */
    private int leastDifference(Row one, Row other) {
        int named = one.namedBits(width) | other.namedBits(width);
        for (int bits = 0; bits <= named; bits++) {
            if ((bits & ~named) == 0 && machine.outcome(one, bits, width) != machine.outcome(other, bits, width)) {
                return bits;
            }
        }
        return NONE;
    }

    private static int asNumber(boolean is) {
        return is ? 1 : 0;
    }

    private static int priceOf(int kind) {
        return kind >= 0 && kind < PRICES.length ? PRICES[kind] : 0;
    }

    private static int registersOf(int kind) {
        return kind >= 0 && kind < REGISTERS_OF.length ? REGISTERS_OF[kind] : 0;
    }

    private static boolean hasNumber(int kind) {
        return kind == SET || kind == SHL || kind == SHR || usesCell(kind);
    }

    private static boolean usesCell(int kind) {
        return kind == GET || kind == PUT;
    }

    private static int nameLength(int kind) {
        return kind == OR ? NAME_BYTES - 1 : NAME_BYTES;
    }

    /** The greatest number that an order of this kind can keep. */
    private static int bound(int kind, int width) {
        if (kind == SET) {
            return (1 << width) - 1;
        }
        return usesCell(kind) ? CELLS - 1 : width;
    }

    private static int kept(int kind, int n, int width) {
        if (kind == SHL || kind == SHR) {
            return Math.min(n & 15, width);
        }
        return n & (kind == SET ? (1 << width) - 1 : CELLS - 1);
    }

    private static int sum(int left, int sign, int right) {
        switch (sign) {
            case '+':
                return left + right;
            case '-':
                return left - right;
            case '&':
                return left & right;
            case '|':
                return left | right;
            case '^':
                return left ^ right;
            default:
                return left;
        }
    }

    /** The bytes that were fed and not yet read. */
    private static final class Tape {
        private final byte[] bytes = new byte[MOST_BYTES];
        int length = 0;

        boolean hasRoomForFive() {
            return length + 5 * 4 <= bytes.length;
        }

        void append(int four) {
            for (int shift = 24; shift >= 0 && length < bytes.length; shift -= 8) {
                bytes[length] = (byte) (four >> shift);
                length++;
            }
        }

        /** 0 to 255, or -1 where there is none. */
        int at(int place) {
            return place >= 0 && place < length && place < bytes.length ? bytes[place] & 255 : -1;
        }
    }

    /** Orders in a row: a program, a side of a rule (with marks and sums), or a side written out. */
    private static final class Row {
        final int most;
        int length = 0;
        final int[] fields;

        Row(int most) {
            this.most = Math.max(0, Math.min(most, MOST_ORDERS));
            fields = new int[this.most * FIELDS];
        }

        boolean has(int i) {
            return i >= 0 && i < length && i < most;
        }

        int at(int i, int field) {
            return has(i) && field >= 0 && field < FIELDS ? fields[i * FIELDS + field] : 0;
        }

        /** Behind the orders comes one more, all 0, to be filled by put; not if there is no room. */
        private boolean grow() {
            if (length >= most) {
                return false;
            }
            for (int field = 0; field < FIELDS; field++) {
                fields[length * FIELDS + field] = 0;
            }
            length++;
            return true;
        }

        private void put(int i, int field, int value) {
            if (has(i) && field >= 0 && field < FIELDS) {
                fields[i * FIELDS + field] = value;
            }
        }

        void add(int[] order) {
            if (order.length >= FIELDS && length < most) {
                System.arraycopy(order, 0, fields, length * FIELDS, FIELDS);
                length++;
            }
        }

        void append(Row other, int from, int to) {
            for (int i = from; i < to; i++) {
                copyOrder(other, i);
            }
        }

        private void copyOrder(Row other, int i) {
            if (grow()) {
                for (int field = 0; field < FIELDS; field++) {
                    put(length - 1, field, other.at(i, field));
                }
            }
        }

        /** Becomes the orders of a side with what its registers and marks stand for. */
        void writeOut(Row side, Binding binding, int width) {
            length = 0;
            for (int i = 0; i < side.length && grow(); i++) {
                int kind = side.at(i, KIND);
                put(i, KIND, kind);
                for (int k = 1; k <= registersOf(kind); k++) {
                    put(i, k, binding.register(side.at(i, k)));
                }
                if (hasNumber(kind)) {
                    int left = binding.valueOf(side.at(i, NUMBER));
                    int right = binding.valueOf(side.at(i, RIGHT));
                    put(i, NUMBER, kept(kind, sum(left, side.at(i, SIGN), right), width));
                }
            }
        }

        void replace(int from, int gone, Row instead) {
            int behind = length - from - gone;
            int longer = length - gone + instead.length;
            if (from < 0 || gone < 0 || behind < 0 || longer > most) {
                return;
            }
            int target = (from + instead.length) * FIELDS;
            System.arraycopy(fields, (from + gone) * FIELDS, fields, target, behind * FIELDS);
            System.arraycopy(instead.fields, 0, fields, from * FIELDS, instead.length * FIELDS);
            length = longer;
        }

        int price() {
            int all = 0;
            for (int i = 0; i < length; i++) {
                all += priceOf(at(i, KIND));
            }
            return all;
        }

        boolean hasCells() {
            boolean has = false;
            for (int i = 0; i < length; i++) {
                has = has || usesCell(at(i, KIND));
            }
            return has;
        }

        /** The bits, as run() has them, of all registers and cells that the orders name. */
        int namedBits(int width) {
            int word = (1 << width) - 1;
            int named = 0;
            for (int i = 0; i < length; i++) {
                int kind = at(i, KIND);
                for (int k = 1; k <= registersOf(kind); k++) {
                    named |= word << at(i, k) * width;
                }
                if (usesCell(kind)) {
                    named |= word << (REGISTERS + at(i, NUMBER)) * width;
                }
            }
            return named;
        }

        /** Byte i of the text, 0 at its end, BAD behind that. */
        int textByte(int i) {
            int rest = i;
            for (int k = 0; k < length; k++) {
                int own = textLength(at(k, KIND));
                if (rest < own) {
                    return orderByte(k, rest);
                }
                if (rest == own) {
                    return k + 1 < length ? ';' : 0;
                }
                rest -= own + 1;
            }
            return rest == 0 && length == 0 ? 0 : BAD;
        }

        /** Whatever belongs to an order is a blank and one byte: a letter, or a number that is kept below 8. */
        private static int textLength(int kind) {
            int belonging = registersOf(kind) + (hasNumber(kind) ? 1 : 0);
            return nameLength(kind) + 2 * belonging;
        }

        private int orderByte(int i, int place) {
            int kind = at(i, KIND);
            int behindName = place - nameLength(kind);
            if (behindName < 0) {
                int spot = kind * NAME_BYTES + place;
                return spot >= 0 && spot < NAMES.length() ? NAMES.charAt(spot) : 0;
            }
            if (behindName % 2 == 0) {
                return ' ';
            }
            int which = behindName / 2 + 1;
            return at(i, which) + (which <= registersOf(kind) ? 'a' : '0');
        }
    }

    /** A rule, what was found when it was tried out, and how it has been used. */
    private static final class Rule {
        static final int MOST_NUMBERS = REGISTERS + CELLS + MARKS;

        final Row first = new Row(MOST_SIDE_ORDERS);
        final Row second = new Row(MOST_SIDE_ORDERS);
        /** The greatest each number of an assignment can be. */
        final int[] tops = new int[MOST_NUMBERS];
        final int[] firstUnlike = new int[MOST_NUMBERS];
        int registers;
        int marks;
        int numbers;
        int assignments;
        int alike;
        int changes;
        boolean hasCells;
        boolean isSound;
        boolean isOn;

        void clear() {
            first.length = 0;
            second.length = 0;
            registers = 0;
            marks = 0;
            numbers = 0;
            assignments = 0;
            alike = 0;
            changes = 0;
            hasCells = false;
            isSound = false;
            isOn = true;
        }

        int gain() {
            return first.price() - second.price();
        }

        /** Finds which numbers an assignment has, and tells how many assignments there are. */
        long measure(int width) {
            int word = (1 << width) - 1;
            hasCells = first.hasCells() || second.hasCells();
            int words = registers + (hasCells ? CELLS : 0);
            numbers = Math.min(words + marks, MOST_NUMBERS);
            long all = 1;
            for (int k = 0; k < numbers; k++) {
                tops[k] = k < words ? word : markTop(k - words, width);
                all *= tops[k] + 1;
            }
            assignments = (int) Math.min(all, MOST_ASSIGNMENTS + 1);
            return all;
        }

        private int markTop(int mark, int width) {
            int least = CELLS + (1 << width);
            for (int i = 0; i < first.length; i++) {
                int kind = first.at(i, KIND);
                if (hasNumber(kind) && first.at(i, NUMBER) == FIRST_MARK + mark) {
                    least = Math.min(least, bound(kind, width));
                }
            }
            return least;
        }
    }

    /** What the registers and marks of a rule stand for in a window; -1 where nothing is settled. */
    private static final class Binding {
        private final int[] registers = new int[REGISTERS];
        private final int[] numbers = new int[MARKS];

        int register(int k) {
            return k >= 0 && k < registers.length ? registers[k] : -1;
        }

        int number(int k) {
            return k >= 0 && k < numbers.length ? numbers[k] : -1;
        }

        int valueOf(int term) {
            return term < FIRST_MARK ? term : number(term - FIRST_MARK);
        }

        void setNumber(int k, int n) {
            if (k >= 0 && k < numbers.length) {
                numbers[k] = n;
            }
        }

        void standForThemselves() {
            for (int k = 0; k < registers.length; k++) {
                registers[k] = k;
            }
        }

        /** Whether a window of the rule begins there; if so, this is what it means. */
        boolean finds(Row program, int place, Rule rule) {
            int length = rule.first.length;
            boolean hasRoom = program.length - length + rule.second.length <= MOST_ORDERS;
            if (!hasRoom || place + length > program.length) {
                return false;
            }
            forget();
            boolean fits = true;
            for (int k = 0; k < length && fits; k++) {
                fits = takesOrder(rule.first, k, program, place + k);
            }
            return fits;
        }

        private void forget() {
            for (int k = 0; k < registers.length; k++) {
                registers[k] = -1;
            }
            for (int k = 0; k < numbers.length; k++) {
                numbers[k] = -1;
            }
        }

        private boolean takesOrder(Row side, int k, Row program, int i) {
            int kind = side.at(k, KIND);
            boolean fits = program.at(i, KIND) == kind;
            for (int field = 1; field <= registersOf(kind) && fits; field++) {
                fits = takesRegister(side.at(k, field), program.at(i, field));
            }
            if (fits && hasNumber(kind)) {
                fits = takesNumber(side.at(k, NUMBER), program.at(i, NUMBER));
            }
            return fits;
        }

        private boolean takesRegister(int which, int meant) {
            if (which < 0 || which >= registers.length) {
                return false;
            }
            for (int k = 0; k < registers.length; k++) {
                if (k != which && registers[k] == meant) {
                    return false;
                }
            }
            if (registers[which] < 0) {
                registers[which] = meant;
            }
            return registers[which] == meant;
        }

        private boolean takesNumber(int term, int meant) {
            int mark = term - FIRST_MARK;
            if (mark >= 0 && number(mark) < 0) {
                setNumber(mark, meant);
            }
            return valueOf(term) == meant;
        }
    }

    /** Registers 0 to 3 and, behind them, the cells. */
    private static final class Machine {
        private final int[] words = new int[REGISTERS + CELLS];

        /** Runs orders from the words that the bits tell, and tells likewise what is there then. */
        int outcome(Row orders, int bits, int width) {
            int all = (1 << width) - 1;
            for (int k = 0; k < words.length; k++) {
                words[k] = bits >> k * width & all;
            }
            int behind = Math.min(orders.length, orders.most) * FIELDS;
            for (int from = 0; from < behind; from += FIELDS) {
                obey(orders.fields, from, all);
            }
            int told = 0;
            for (int k = 0; k < words.length; k++) {
                told |= words[k] << k * width;
            }
            return told;
        }

        /** The order whose fields begin there; read from the row itself, since all trials spend their time here. */
        private void obey(int[] fields, int from, int all) {
            if (from < 0 || from + FIELDS > fields.length) {
                return;
            }
            int kind = fields[from + KIND];
            int x = fields[from + 1] & 3;
            int y = fields[from + 2] & 3;
            switch (kind) {
                case NOP:
                    break;
                case PUT:
                    words[REGISTERS + y] = words[x];
                    break;
                case GET:
                    words[x] = words[REGISTERS + y];
                    break;
                case SEL:
                    words[x] = words[words[x] != 0 ? y : fields[from + 3] & 3];
                    break;
                case SWP:
                    int first = words[x];
                    words[x] = words[y];
                    words[y] = first;
                    break;
                default:
                    words[x] = worked(kind, words[x], words[y], fields[from + NUMBER]) & all;
            }
        }

        private static int worked(int kind, int x, int y, int n) {
            switch (kind) {
                case SET:
                    return n;
                case MOV:
                    return y;
                case ADD:
                    return x + y;
                case SUB:
                    return x - y;
                case AND:
                    return x & y;
                case OR:
                    return x | y;
                case XOR:
                    return x ^ y;
                case MUL:
                    return x * y;
                case INC:
                    return x + 1;
                case DEC:
                    return x - 1;
                case NOT:
                    return ~x;
                case NEG:
                    return -x;
                case SHL:
                    return x << n;
                case SHR:
                    return x >> n;
                default:
                    return x;
            }
        }
    }

    /** Goes through all assignments of a rule. */
    private static final class Trial {
        private final Machine machine = new Machine();
        private final Row first = new Row(MOST_SIDE_ORDERS);
        private final Row second = new Row(MOST_SIDE_ORDERS);
        private final Binding binding = new Binding();
        private final int[] numbers = new int[Rule.MOST_NUMBERS];

        void tryOut(Rule rule, int width) {
            begin(rule, width);
            rule.alike = 0;
            boolean foundUnlike = false;
            for (int n = 0; n < rule.assignments; n++) {
                int bits = wordsAsBits(rule, width);
                if (rule.marks > 0) {
                    writeMarks(rule, width);
                }
                if (machine.outcome(first, bits, width) == machine.outcome(second, bits, width)) {
                    rule.alike++;
                } else if (!foundUnlike) {
                    foundUnlike = true;
                    System.arraycopy(numbers, 0, rule.firstUnlike, 0, Rule.MOST_NUMBERS);
                }
                goOn(rule);
            }
            rule.isSound = !foundUnlike && rule.gain() > 0;
        }

        private void begin(Rule rule, int width) {
            for (int k = 0; k < numbers.length; k++) {
                numbers[k] = 0;
            }
            binding.standForThemselves();
            writeMarks(rule, width);
        }

        /** What the rule does not name is 0 before and behind, so that the whole outcomes can be compared. */
        private int wordsAsBits(Rule rule, int width) {
            int bits = 0;
            for (int k = 0; k < rule.registers && k < REGISTERS; k++) {
                bits |= numbers[k] << k * width;
            }
            for (int k = 0; rule.hasCells && k < CELLS && rule.registers + k < numbers.length; k++) {
                bits |= numbers[rule.registers + k] << (REGISTERS + k) * width;
            }
            return bits;
        }

        private void writeMarks(Rule rule, int width) {
            int words = rule.numbers - rule.marks;
            for (int k = 0; k < rule.marks && words >= 0 && words + k < numbers.length; k++) {
                binding.setNumber(k, numbers[words + k]);
            }
            first.writeOut(rule.first, binding, width);
            second.writeOut(rule.second, binding, width);
        }

        private void goOn(Rule rule) {
            for (int k = Math.min(rule.numbers, numbers.length) - 1; k >= 0; k--) {
                if (numbers[k] < rule.tops[k]) {
                    numbers[k]++;
                    return;
                }
                numbers[k] = 0;
            }
        }
    }

    /** The letters that stand for any, numbered in the order in which they first stand. */
    private static final class Letters {
        private final int[] numberOf;
        int count = 0;

        Letters(int most) {
            numberOf = new int[Math.max(0, Math.min(most, REGISTERS))];
        }

        void forget() {
            count = 0;
            for (int k = 0; k < numberOf.length; k++) {
                numberOf[k] = -1;
            }
        }

        /** The number of a letter, or -1 if it has none and may not be new. */
        int look(int letter, boolean mayBeNew) {
            if (letter < 0 || letter >= numberOf.length) {
                return -1;
            }
            if (numberOf[letter] < 0 && mayBeNew) {
                numberOf[letter] = count;
                count++;
            }
            return numberOf[letter];
        }
    }

    /** Reads the tape as a program or a rule, up to its first fault. */
    private static final class Reader {
        private static final int PROGRAM = 0, FIRST_SIDE = 1, SECOND_SIDE = 2;

        int fault = 0;
        int faultPlace = 0;
        final Tape tape = new Tape();
        private final Letters registers = new Letters(REGISTERS);
        private final Letters marks = new Letters(MARKS);
        private final int[] order = new int[FIELDS];
        private int place = 0;
        private int reading = PROGRAM;
        private int width = 0;

        void readProgram(Row program, int width) {
            begin(PROGRAM, width);
            if (place < tape.length) {
                readOrders(program);
            }
        }

        void readRule(Rule rule, int width) {
            begin(FIRST_SIDE, width);
            if (readOrders(rule.first)) {
                reading = SECOND_SIDE;
                skipBlanks();
                if (place < tape.length) {
                    readOrders(rule.second);
                }
            }
            rule.registers = registers.count;
            rule.marks = marks.count;
        }

        private void begin(int what, int width) {
            this.width = width;
            reading = what;
            fault = 0;
            faultPlace = 0;
            place = 0;
            registers.forget();
            marks.forget();
            skipBlanks();
        }

        private boolean refuse(int kind) {
            fault = kind;
            faultPlace = place;
            return false;
        }

        private void skipBlanks() {
            while (place < tape.length && tape.at(place) == ' ') {
                place++;
            }
        }

        /** One order more than there may be is begun, since its name may be the fault instead. */
        private boolean readOrders(Row row) {
            for (int k = 0; k <= row.most; k++) {
                if (!readName(k == row.most) || !readRegisters() || !readNumber()) {
                    return false;
                }
                row.add(order);
                skipBlanks();
                if (readClose()) {
                    return true;
                }
                if (tape.at(place) != ';') {
                    return refuse(CAN_NOT_STAND);
                }
                place++;
                skipBlanks();
            }
            return false;
        }

        private boolean readClose() {
            if (reading != FIRST_SIDE) {
                return place >= tape.length;
            }
            boolean arrow = tape.at(place) == '=' && tape.at(place + 1) == '>';
            if (arrow) {
                place += 2;
            }
            return arrow;
        }

        private boolean readName(boolean isTooMany) {
            int length = wordLength();
            int kind = kindNamed(length);
            if (kind < 0) {
                return refuse(CAN_NOT_STAND);
            }
            if (isTooMany) {
                return refuse(TOO_MANY_ORDERS);
            }
            place += length;
            for (int field = 0; field < FIELDS; field++) {
                order[field] = 0;
            }
            order[KIND] = kind;
            return true;
        }

        private boolean readRegisters() {
            for (int k = 1; k <= registersOf(order[KIND]); k++) {
                if (!readGap() || !readRegister(k)) {
                    return false;
                }
            }
            return true;
        }

        private boolean readGap() {
            if (tape.at(place) != ' ') {
                return refuse(CAN_NOT_STAND);
            }
            skipBlanks();
            return true;
        }

        private boolean readRegister(int field) {
            int letter = tape.at(place) - (reading == PROGRAM ? 'a' : 'p');
            if (letter < 0 || letter >= REGISTERS || isLetter(tape.at(place + 1))) {
                return refuse(CAN_NOT_STAND);
            }
            int number = reading == PROGRAM ? letter : registers.look(letter, reading == FIRST_SIDE);
            return number < 0 ? refuse(NOT_IN_FIRST_SIDE) : take(field, number);
        }

        /** In the terms of a sum numbers stay as they are written: only what is worked from them is kept. */
        private boolean readNumber() {
            if (!hasNumber(order[KIND])) {
                return true;
            }
            if (!readGap() || !readTerm(NUMBER)) {
                return false;
            }
            int sign = tape.at(place);
            if (reading == SECOND_SIDE && isSign(sign)) {
                return take(SIGN, sign) && readTerm(RIGHT);
            }
            if (order[NUMBER] < FIRST_MARK) {
                order[NUMBER] = kept(order[KIND], order[NUMBER], width);
            }
            return true;
        }

        private boolean readTerm(int field) {
            if (!isFigure(tape.at(place))) {
                return readMark(field);
            }
            int n = tape.at(place) - '0';
            boolean hasSecond = isFigure(tape.at(place + 1));
            if (hasSecond) {
                n = n * 10 + tape.at(place + 1) - '0';
            }
            if (n > 15 || hasSecond && isFigure(tape.at(place + 2))) {
                return refuse(NO_SUCH_NUMBER);
            }
            place += hasSecond ? 1 : 0;
            return take(field, n);
        }

        private boolean readMark(int field) {
            int letter = tape.at(place) - 'i';
            if (reading == PROGRAM || letter < 0 || letter >= MARKS || isLetter(tape.at(place + 1))) {
                return refuse(CAN_NOT_STAND);
            }
            int number = marks.look(letter, reading == FIRST_SIDE);
            return number < 0 ? refuse(NOT_IN_FIRST_SIDE) : take(field, FIRST_MARK + number);
        }

        /** Keeps what ends with the byte at this place, and goes behind it. */
        private boolean take(int field, int value) {
            if (field >= 0 && field < order.length) {
                order[field] = value;
            }
            place++;
            return true;
        }

        private int wordLength() {
            int length = 0;
            while (place + length < tape.length && isLetter(tape.at(place + length))) {
                length++;
            }
            return length;
        }

        /** Which kind of order has the word of this length at this place as its name, or -1. */
        private int kindNamed(int length) {
            for (int kind = 0; kind < KINDS; kind++) {
                boolean is = length == nameLength(kind);
                for (int k = 0; k < length && is; k++) {
                    is = NAMES.charAt(kind * NAME_BYTES + k) == tape.at(place + k);
                }
                if (is) {
                    return kind;
                }
            }
            return -1;
        }

        private static boolean isLetter(int b) {
            return b >= 'a' && b <= 'z' || b >= 'A' && b <= 'Z';
        }

        private static boolean isFigure(int b) {
            return b >= '0' && b <= '9';
        }

        private static boolean isSign(int b) {
            return b == '+' || b == '-' || b == '&' || b == '|' || b == '^';
        }
    }

    /** The way of the latest milling. */
    private static final class Steps {
        /** Of each step its place, its rule and the price behind it. */
        static final int TOLD = 3;
        final int[] told = new int[MOST_STEPS * TOLD];
        int count = 0;

        void add(int place, int rule, int price) {
            if (count < MOST_STEPS) {
                told[count * TOLD] = place;
                told[count * TOLD + 1] = rule;
                told[count * TOLD + 2] = price;
                count++;
            }
        }
    }
}
