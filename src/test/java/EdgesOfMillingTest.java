/** The edges that promises 16 to 26 name, a method for each promise: too small, too large, empty, full, refused. */
public final class EdgesOfMillingTest {
    private static final Bench BENCH = new Bench("EdgesOfMillingTest");
    private static final int BAD = RuleMill.BAD, STATE = RuleMill.STATE, NONE = RuleMill.NONE;

    public static void main(String[] args) {
        promise16();
        promise17();
        promise18();
        promise19();
        promise20();
        promise21();
        promise22();
        promise23();
        promise24();
        promise25();
        promise26();
        BENCH.close();
    }

    private static void due(String what, int got, int want) {
        BENCH.due(what, got, want);
    }

    private static RuleMill with(int w, String rule, String program) {
        RuleMill mill = BENCH.withRules(w, rule);
        due("program '" + program + "'", Bench.program(mill, program), 0);
        return mill;
    }

    private static void window(int w, String rule, String program, int i, int want) {
        due("16: window of '" + rule + "' in '" + program + "' at " + i, with(w, rule, program).window(0, i, 0), want);
    }

    private static void promise16() {
        RuleMill mill = with(2, "nop;inc p=>", "nop;inc a;nop;inc b;nop");
        for (int i = 0; i < 5; i++) {
            due("16: window at " + i, mill.window(0, i, 0), i == 0 || i == 2 ? 1 : 0);
        }
        for (int i : Bench.outside(5)) {
            due("16: BAD, place " + i, mill.window(0, i, 0), BAD);
        }
        for (int n : Bench.outside(1)) {
            due("16: BAD, program " + n, mill.window(n, 0, 0), BAD);
            due("16: BAD, rule " + n, mill.window(0, 0, n), BAD);
        }
        due("16: not sound, and there", mill.told(0, 0) * 10 + mill.window(0, 0, 0), 1);
        mill.on(0, false);
        due("16: off, and there", mill.window(0, 0, 0), 1);
        BENCH.due("16: it stays as it is", Bench.text(mill, 0), "nop;inc a;nop;inc b;nop");
        due("16: BAD, no place in none", with(2, "nop=>", "").window(0, 0, 0), BAD);
        longestSides();
        unlikeOnes();
        sameNumbers();
        roomBehind();
    }

    private static void longestSides() {
        String four = Bench.times("nop", 4);
        window(2, four + "=>", four, 0, 1);
        window(2, four + "=>", Bench.times("nop", 3), 0, 0);
        window(2, four + "=>", Bench.times("nop", 24), 20, 1);
        window(2, four + "=>", Bench.times("nop", 24), 21, 0);
        window(2, "nop=>", Bench.times("nop", 24), 23, 1);
        window(2, "nop;nop;nop;inc p=>", "nop;nop;nop;dec a", 0, 0);
        window(2, "inc p;nop;nop;nop=>", "dec a;nop;nop;nop", 0, 0);
    }

    /** Unlike registers for unlike ones, the same for the same. */
    private static void unlikeOnes() {
        for (char x = 'a'; x <= 'd'; x++) {
            for (char y = 'a'; y <= 'd'; y++) {
                window(2, "mov p q=>", "mov " + x + " " + y, 0, x == y ? 0 : 1);
                window(2, "mov s s=>", "mov " + x + " " + y, 0, x == y ? 1 : 0);
                window(2, "inc p;nop;dec q=>", "inc " + x + ";nop;dec " + y, 0, x == y ? 0 : 1);
                window(2, "inc q;nop;dec q=>", "inc " + x + ";nop;dec " + y, 0, x == y ? 1 : 0);
                window(2, "sel p q r=>", "sel " + x + " " + y + " d", 0, x != y && x != 'd' && y != 'd' ? 1 : 0);
                window(2, "sel p q p=>", "sel " + x + " " + y + " " + x, 0, x != y ? 1 : 0);
            }
        }
    }

    /** A mark is the same number wherever it stands; unlike marks may be the same; numbers are those that are kept. */
    private static void sameNumbers() {
        for (int n = 0; n <= 15; n++) {
            for (int m = 0; m <= 15; m++) {
                window(3, "set p i;set p i=>", "set a " + n + ";set a " + m, 0, n % 8 == m % 8 ? 1 : 0);
                window(3, "set p i;set p j=>", "set a " + n + ";set a " + m, 0, 1);
                window(3, "set p i;shl p i=>", "set a " + n + ";shl a " + m, 0, n % 8 == Math.min(m, 3) ? 1 : 0);
                window(2, "set p " + n + "=>", "set a " + m, 0, n % 4 == m % 4 ? 1 : 0);
                window(2, "shr p " + n + "=>", "shr a " + m, 0, Math.min(n, 2) == Math.min(m, 2) ? 1 : 0);
                window(1, "get p " + n + "=>", "get a " + m, 0, n % 4 == m % 4 ? 1 : 0);
            }
        }
    }

    /** Only if the program would have 24 orders at most behind it. */
    private static void roomBehind() {
        for (int gone = 1; gone <= 4; gone++) {
            for (int come = 0; come <= 4; come++) {
                String rule = Bench.times("nop", gone) + "=>" + Bench.times("nop", come);
                for (int orders = 20; orders <= 24; orders++) {
                    window(2, rule, Bench.times("nop", orders), 0, orders - gone + come <= 24 ? 1 : 0);
                }
            }
        }
    }

    private static void promise17() {
        RuleMill mill = BENCH.withRules(2, "sel s q r;set p k;shr p i;shl p j=>", "nop=>");
        Bench.program(mill, "nop;sel b d a;set c 15;shr c 15;shl c 0");
        int[] registers = {1, 3, 0, 2};
        int[] numbers = {3, 2, 0};
        for (int k = 0; k < 4; k++) {
            due("17: register " + k, mill.meant(0, 1, 0, 0, k), registers[k]);
        }
        for (int k = 0; k < 3; k++) {
            due("17: number " + k, mill.meant(0, 1, 0, 1, k), numbers[k]);
        }
        for (int k : Bench.outside(4)) {
            due("17: NONE, register " + k, mill.meant(0, 1, 0, 0, k), NONE);
        }
        for (int k : Bench.outside(3)) {
            due("17: NONE, number " + k, mill.meant(0, 1, 0, 1, k), NONE);
        }
        due("17: NONE, no registers in it", mill.meant(0, 0, 1, 0, 0), NONE);
        due("17: NONE, no marks in it", mill.meant(0, 0, 1, 1, 0), NONE);
        due("17: NONE, no window", mill.meant(0, 2, 0, 0, 0), NONE);
        due("17: NONE, no window, too near the end", mill.meant(0, 4, 0, 1, 0), NONE);
        meantIsBad(mill);
        mill.on(0, false);
        due("17: off", mill.meant(0, 1, 0, 0, 1), 3);
        due("17: the greatest number", with(3, "set p i=>", "set d 15").meant(0, 0, 0, 1, 0), 7);
        due("17: the last register", with(3, "set p i=>", "set d 15").meant(0, 0, 0, 0, 0), 3);
        RuleMill full = with(2, "inc p=>inc p;nop", Bench.times("inc c", 24));
        due("17: NONE, no window, no room behind it", full.meant(0, 0, 0, 0, 0), NONE);
        due("17: room behind it", with(2, "inc p=>inc p;nop", Bench.times("inc c", 23)).meant(0, 22, 0, 0, 0), 2);
    }

    private static void meantIsBad(RuleMill mill) {
        for (int k = -1; k <= 4; k += 5) {
            for (int n : Bench.outside(1)) {
                due("17: BAD, program " + n, mill.meant(n, 1, 0, 0, k), BAD);
            }
            for (int n : Bench.outside(5)) {
                due("17: BAD, place " + n, mill.meant(0, n, 0, 0, k), BAD);
            }
            for (int n : Bench.outside(2)) {
                due("17: BAD, rule " + n, mill.meant(0, 1, n, 0, k), BAD);
                due("17: BAD, sort " + n, mill.meant(0, 1, 0, n, k), BAD);
                due("17: BAD ahead of NONE, sort " + n, mill.meant(0, 2, 0, n, k), BAD);
            }
        }
    }

    private static void promise18() {
        RuleMill mill = BENCH.withRules(2, "nop=>", "inc p=>", "mov p p=>nop;nop", "sel p q q=>mov p q;nop");
        Bench.program(mill, "nop;inc a;mov a a;nop");
        for (int n : Bench.outside(1)) {
            due("18: BAD, program " + n, mill.change(n, 0, 0), BAD);
        }
        for (int n : Bench.outside(4)) {
            due("18: BAD, place " + n, mill.change(0, n, 0), BAD);
            due("18: BAD, place " + n + ", also not sound", mill.change(0, n, 1), BAD);
            due("18: BAD, rule " + n, mill.change(0, 0, n), BAD);
        }
        due("18: STATE, no window", mill.change(0, 1, 0), STATE);
        due("18: STATE, not sound: not the same", mill.change(0, 1, 1), STATE);
        due("18: STATE, not sound: no gain", mill.change(0, 2, 2), STATE);
        BENCH.due("18: what is refused changes nothing", Bench.text(mill, 0), "nop;inc a;mov a a;nop");
        for (int r = 0; r < 4; r++) {
            due("18: nor how often, " + r, mill.told(r, 8), 0);
        }
        mill.on(0, false);
        due("18: off, at the last place", mill.change(0, 3, 0), 3);
        due("18: off, at the first place", mill.change(0, 0, 0), 2);
        BENCH.due("18: what is left", Bench.text(mill, 0), "inc a;mov a a");
        due("18: how often", mill.told(0, 8), 2);
        due("18: it is off still", mill.told(0, 9), 0);
        due("18: no step of a mill()", mill.count(5), 0);
        toNoneAndToFull();
    }

    private static void toNoneAndToFull() {
        RuleMill none = with(2, "nop;nop;nop;nop=>", "nop;nop;nop;nop");
        due("18: none is left", none.change(0, 0, 0), 0);
        BENCH.due("18: its text", Bench.text(none, 0), "");
        due("18: BAD, no place any more", none.change(0, 0, 0), BAD);
        String rule = "sel p q q=>mov p q;nop";
        RuleMill full = with(2, rule, Bench.times("sel a b b", 23));
        due("18: to 24", full.change(0, 22, 0), 24);
        BENCH.due("18: its text", Bench.text(full, 0), Bench.times("sel a b b", 22) + ";mov a b;nop");
        due("18: STATE, would be 25", full.change(0, 0, 0), STATE);
        due("18: 24 still", full.size(0, 0), 24);
        RuleMill middle = with(2, rule, "inc a;sel c d d;inc b;inc c");
        due("18: in the middle", middle.change(0, 1, 0), 5);
        BENCH.due("18: its text", Bench.text(middle, 0), "inc a;mov c d;nop;inc b;inc c");
    }

    private static void milled(int w, String program, String left, int steps, String... rules) {
        RuleMill mill = BENCH.withRules(w, rules);
        Bench.program(mill, program);
        due("19: steps of '" + program + "'", mill.mill(0), steps);
        BENCH.due("19: left of '" + program + "'", Bench.text(mill, 0), left);
        due("19: done", mill.done(0), 1);
        due("19: once more", mill.mill(0), 0);
    }

    private static void promise19() {
        RuleMill mill = BENCH.withRules(2, "nop=>");
        Bench.program(mill, "nop;inc a;nop");
        for (int p : Bench.outside(1)) {
            due("19: BAD, mill(" + p + ")", mill.mill(p), BAD);
        }
        BENCH.due("19: BAD changes nothing", Bench.text(mill, 0), "nop;inc a;nop");
        milled(2, "", "", 0, "nop=>");
        milled(2, "nop", "nop", 0);
        milled(2, "inc a;nop", "inc a;nop", 0, "inc p=>", "nop=>nop", "nop;nop=>");
        milled(2, "nop", "", 1, "nop=>");
        milled(2, Bench.times("nop", 24), "", 24, "nop=>");
        milled(2, Bench.times("nop", 24), "", 6, "nop;nop;nop;nop=>", "nop=>");
        milled(2, "inc a;inc b;dec b;dec a", "", 2, "inc p;dec p=>");
        milled(2, "set a 3;inc a;inc a;inc a;inc a", "set a 3", 4, "set p i;inc p=>set p i+1");
        RuleMill off = BENCH.withRules(2, "nop=>", "nop;nop=>nop");
        Bench.program(off, "nop;nop;nop");
        off.on(0, false);
        due("19: one that is off does not count", off.mill(0), 2);
        BENCH.due("19: left", Bench.text(off, 0), "nop");
        off.on(1, false);
        off.on(0, true);
        due("19: on again", off.mill(0), 1);
        leastPlaceThenLeastRule();
        mostSteps();
    }

    private static void leastPlaceThenLeastRule() {
        RuleMill mill = BENCH.withRules(2, "dec p;inc p=>", "inc p;nop=>inc p", "inc p;dec p=>", "inc p;dec p=>nop");
        Bench.program(mill, "inc a;dec a;inc a;nop");
        due("19: steps", mill.mill(0), 2);
        due("19: the least place, though its rule is not the least", mill.step(0, 0) * 10 + mill.step(0, 1), 2);
        due("19: then", mill.step(1, 0) * 10 + mill.step(1, 1), 1);
        due("19: of two at one place the least rule", mill.told(3, 8), 0);
        BENCH.due("19: left", Bench.text(mill, 0), "inc a");
    }

    /** From the dearest program to none: each step gains 1, but for the first one, for which there is no room. */
    private static void mostSteps() {
        RuleMill mill = BENCH.withRules(1, "mul p p=>sel p p p;nop", "sel p p p;nop=>and p p;nop", "mul p p=>sel p p p",
            "sel p p p=>and p p", "and p p=>mov p p", "mov p p=>nop", "nop=>");
        Bench.program(mill, Bench.times("mul d d", 24));
        due("19: most steps", mill.mill(0), 143);
        due("19: none left", mill.size(0, 0), 0);
        due("20: as many are told", mill.count(5), 143);
        due("20: the first", mill.step(0, 2), 142);
        for (int k = 1; k < 143; k++) {
            due("20: price behind step " + k, mill.step(k, 2), 142 - k);
            due("20: place of step " + k, mill.step(k, 0), 0);
        }
        due("20: the last one's rule", mill.step(142, 1), 6);
        due("20: BAD, no more", mill.step(143, 0), BAD);
        due("20: BAD, no more", mill.step(144, 0), BAD);
    }

    private static void promise20() {
        RuleMill mill = BENCH.withRules(2, "nop=>", "inc p;dec p=>");
        due("20: BAD, no mill() yet", mill.step(0, 0), BAD);
        Bench.program(mill, "add a b;inc c;dec c;nop");
        Bench.program(mill, "inc a");
        due("20: mill(0)", mill.mill(0), 2);
        for (int turn = 0; turn < 2; turn++) {
            int[][] want = {{1, 1, 4}, {1, 0, 3}};
            for (int k = 0; k < 2; k++) {
                for (int what = 0; what < 3; what++) {
                    due("20: step(" + k + ", " + what + ")", mill.step(k, what), want[k][what]);
                }
                for (int what : Bench.outside(3)) {
                    due("20: BAD, step(" + k + ", " + what + ")", mill.step(k, what), BAD);
                }
            }
            for (int k : Bench.outside(2)) {
                due("20: BAD, step(" + k + ", 0)", mill.step(k, 0), BAD);
            }
            mill.mill(2);
            mill.mill(-1);
            mill.change(0, 0, 0);
            mill.drop();
        }
        Bench.program(mill, "inc a");
        due("20: not BAD, no steps", mill.mill(0), 0);
        due("20: BAD, the latest had none", mill.step(0, 0), BAD);
    }

    private static void promise21() {
        RuleMill mill = BENCH.withRules(2, "inc p=>", "nop=>nop", "nop;nop=>nop", "mov p q;nop=>mov p q");
        for (String text : new String[] {"", "nop", "nop;nop", "inc a", "mov a b;nop", "inc a;inc a;nop;nop"}) {
            Bench.program(mill, text);
        }
        int[] want = {1, 1, 0, 1, 0, 0};
        for (int p = 0; p < want.length; p++) {
            due("21: done(" + p + ")", mill.done(p), want[p]);
        }
        for (int p : Bench.outside(6)) {
            due("21: BAD, done(" + p + ")", mill.done(p), BAD);
        }
        mill.on(2, false);
        due("21: off", mill.done(2), 1);
        due("21: off", mill.done(5), 1);
        due("21: another is on", mill.done(4), 0);
        BENCH.due("21: it changes nothing", Bench.text(mill, 4), "mov a b;nop");
        RuleMill full = with(2, "sel p q q=>mov p q;nop", Bench.times("sel a b b", 24));
        due("21: no room, so no window", full.done(0), 1);
        due("21: no rules", BENCH.withPrograms("nop").done(0), 1);
    }

    private static void promise22() {
        for (int w = 1; w <= 3; w++) {
            int most = (1 << 8 * w) - 1;
            RuleMill mill = Bench.withWidth(w);
            Bench.program(mill, "");
            for (int bits : Bench.outside(most + 1)) {
                due("22: BAD, bits " + bits + ", W " + w, mill.run(0, bits), bits > 0 && bits <= most ? bits : BAD);
            }
            for (int p : Bench.outside(1)) {
                due("22: BAD, program " + p, mill.run(p, 0), BAD);
            }
            due("22: none, none", mill.run(0, 0), 0);
            due("22: all bits", mill.run(0, most), most);
            for (int k = 0; k < 8 * w; k++) {
                due("22: bit " + k + ", W " + w, mill.run(0, 1 << k), 1 << k);
            }
            Bench.program(mill, "inc a;inc b;inc c;inc d");
            due("22: each wraps for itself", mill.run(1, most), most - ((1 << 4 * w) - 1));
            Bench.program(mill, Bench.times("inc d", 24));
            due("22: 24 orders", mill.run(2, 0), 24 % (1 << w) << 3 * w);
        }
    }

    /** Two programs that leave unlike words only where all bits are 1. */
    private static void promise23() {
        String and = "and a b;and a c;and a d;get b 0;and a b;get b 1;and a b;get b 2;and a b;get b 3;and a b;";
        for (int w = 1; w <= 2; w++) {
            RuleMill mill = Bench.withWidth(w);
            Bench.program(mill, and + "inc a;set c 0;set d 1;sel a c d");
            Bench.program(mill, and + "inc a;set c 0;set d 1;set a 0");
            Bench.program(mill, "");
            due("23: by the last bits alone, W " + w, mill.same(0, 1), 0);
            due("24: which are the last, W " + w, mill.differs(), (1 << 8 * w) - 1);
            due("23: the other way", mill.same(1, 0), 0);
            due("24: the same", mill.differs(), (1 << 8 * w) - 1);
            due("23: with itself", mill.same(0, 0), 1);
            due("23: none with none", mill.same(2, 2), 1);
            for (int p : Bench.outside(3)) {
                due("23: BAD, same(" + p + ", 0)", mill.same(p, 0), BAD);
                due("23: BAD, same(0, " + p + ")", mill.same(0, p), BAD);
            }
        }
        RuleMill wide = Bench.withWidth(3);
        due("23: BAD ahead of STATE", wide.same(0, 0), BAD);
        Bench.program(wide, "");
        Bench.program(wide, "inc a");
        due("23: STATE, W is 3", wide.same(0, 1), STATE);
        due("23: STATE, with itself too", wide.same(0, 0), STATE);
        due("23: BAD ahead of STATE", wide.same(0, 2), BAD);
        due("24: STATE told none apart", wide.differs(), NONE);
    }

    private static void promise24() {
        RuleMill mill = BENCH.withPrograms("", "nop", "and a b", "inc d", "put a 3");
        due("24: NONE, no same() yet", mill.differs(), NONE);
        due("24: same", mill.same(0, 1), 1);
        due("24: NONE, none that was 0", mill.differs(), NONE);
        mill.same(0, 5);
        due("24: NONE, BAD is not 0", mill.differs(), NONE);
        due("24: not the same", mill.same(0, 2), 0);
        due("24: the least", mill.differs(), 1);
        mill.same(0, 1);
        due("24: one that was 1 leaves it", mill.differs(), 1);
        mill.same(-1, 0);
        due("24: one that was BAD leaves it", mill.differs(), 1);
        due("24: not the same", mill.same(3, 0), 0);
        due("24: the least is none at all", mill.differs(), 0);
        due("24: not the same", mill.same(4, 1), 0);
        due("24: the latest", mill.differs(), 1);
        for (int k = 4; k >= 0; k--) {
            mill.drop();
        }
        due("24: the programs' going leaves it", mill.differs(), 1);
        mill.width(3);
        due("24: another width leaves it", mill.differs(), 1);
    }

    private static void promise25() {
        RuleMill mill = new RuleMill();
        for (int what : Bench.outside(6)) {
            due("25: BAD, count(" + what + ")", mill.count(what), BAD);
        }
        for (int k = 0; k < 24; k++) {
            due("25: rules", mill.count(0), k);
            due("25: sound ones", mill.count(1), (k + 1) / 2);
            Bench.rule(mill, k % 2 == 0 ? "nop=>" : "nop=>nop");
        }
        due("25: 24 rules", mill.count(0), 24);
        due("25: 12 sound ones", mill.count(1), 12);
        mill.on(0, false);
        due("25: sound, on or not", mill.count(1), 12);
        for (int k = 0; k < 16; k++) {
            due("25: programs", mill.count(2), k);
            Bench.program(mill, "nop;nop");
        }
        due("25: 16 programs", mill.count(2), 16);
        due("25: no steps", mill.count(5), 0);
        due("25: mill(0)", mill.mill(0), 2);
        mill.mill(16);
        due("25: steps, behind BAD too", mill.count(5), 2);
        mill.drop();
        due("25: 15 programs", mill.count(2), 15);
        due("25: steps", mill.count(5), 2);
        mill.mill(0);
        due("25: the latest had none", mill.count(5), 0);
        due("25: no bytes", mill.count(3), 0);
        mill.feed(0, 0, 0, 0, 0);
        due("25: bytes", mill.count(3), 20);
        for (int w = 1; w <= 3; w++) {
            due("25: W", Bench.withWidth(w).count(4), w);
        }
    }

    private static void promise26() {
        RuleMill mill = new RuleMill();
        due("26: NONE at first", mill.drop(), NONE);
        due("26: NONE changes nothing", mill.count(2), 0);
        for (int k = 0; k < 16; k++) {
            Bench.program(mill, Bench.times("inc a", k));
        }
        for (int k = 15; k >= 8; k--) {
            due("26: its number", mill.drop(), k);
            due("26: it is gone", mill.size(k, 0), BAD);
            due("26: the one before is not", mill.size(k - 1, 0), k - 1);
        }
        due("26: a new one has that number", Bench.program(mill, "dec b"), 8);
        BENCH.due("26: and is its own", Bench.text(mill, 8), "dec b");
        due("26: so has a part", mill.drop() * 100 + mill.part(7, 0, 3), 808);
        due("26: 3 orders", mill.size(8, 0), 3);
        due("26: so has what is joined", mill.drop() * 100 + mill.joined(1, 1), 808);
        due("26: 2 orders", mill.size(8, 0), 2);
        for (int k = 8; k >= 0; k--) {
            due("26: its number", mill.drop(), k);
        }
        due("26: NONE, all are gone", mill.drop(), NONE);
        due("26: and again", mill.drop(), NONE);
        due("26: the first one anew", Bench.program(mill, ""), 0);
    }
}
