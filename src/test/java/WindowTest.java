/** Promises 16 to 21: window, meant, change, mill, step, done. */
public final class WindowTest {
    private static final Bench BENCH = new Bench("WindowTest");

    public static void main(String[] args) {
        window();
        room();
        meant();
        change();
        mill();
        longMills();
        done();
        BENCH.close();
    }

    private static void isWindow(String rule, String program, int i, int due) {
        RuleMill mill = new RuleMill();
        Bench.rule(mill, rule);
        Bench.program(mill, program);
        BENCH.due("window of '" + rule + "' in '" + program + "' at " + i, mill.window(0, i, 0), due);
    }

    private static void window() {
        isWindow("nop=>", "nop", 0, 1);
        isWindow("nop=>", "inc a", 0, 0);
        isWindow("nop=>", "nop", 1, RuleMill.BAD);
        isWindow("nop=>", "nop", -1, RuleMill.BAD);
        isWindow("nop=>", "", 0, RuleMill.BAD);
        isWindow("nop;nop=>", "nop;nop", 1, 0);
        isWindow("add p q=>", "add a b", 0, 1);
        isWindow("add p q=>", "add a a", 0, 0);
        isWindow("add p p=>", "add a a", 0, 1);
        isWindow("add p p=>", "add a b", 0, 0);
        isWindow("mov p q;mov q p=>", "mov d a;mov a d", 0, 1);
        isWindow("mov p q;mov q p=>", "mov d a;mov a c", 0, 0);
        isWindow("mov p q;mov r p=>", "mov d a;mov a d", 0, 0);
        isWindow("sel p q r;inc s=>", "sel d b a;inc c", 0, 1);
        isWindow("sel p q r;inc s=>", "sel d b a;inc b", 0, 0);
        isWindow("set p i;shl p i=>", "set a 2;shl a 2", 0, 1);
        isWindow("set p i;shl p i=>", "set a 3;shl a 2", 0, 0);
        isWindow("set p i;set q j=>", "set a 1;set b 1", 0, 1);
        isWindow("set p i;set q i=>", "set a 1;set b 2", 0, 0);
        isWindow("set p i;set q i=>", "set a 0;set b 2", 0, 0);
        isWindow("nop;set p i=>", "nop", 0, 0);
        isWindow("set p 7=>", "set a 3", 0, 1);
        isWindow("set p 7=>", "set a 2", 0, 0);
        isWindow("shl p 9=>", "inc a;shl d 15", 1, 1);
        isWindow("get p 4=>", "get b 0", 0, 1);
        isWindow("get p i=>", "put b 0", 0, 0);
        isWindow("swp p q=>", "swp b b", 0, 0);
        RuleMill mill = new RuleMill();
        Bench.rule(mill, "nop=>");
        Bench.program(mill, "nop");
        mill.on(0, false);
        BENCH.due("window(0, 0, 0), off", mill.window(0, 0, 0), 1);
        BENCH.due("window(1, 0, 0)", mill.window(1, 0, 0), RuleMill.BAD);
        BENCH.due("window(0, 0, 1)", mill.window(0, 0, 1), RuleMill.BAD);
        BENCH.due("window(0, 0, -1)", mill.window(0, 0, -1), RuleMill.BAD);
    }

    /** A window must leave 24 orders at most. */
    private static void room() {
        RuleMill mill = new RuleMill();
        Bench.rule(mill, "mul p p;nop=>nop;nop;mul p p");
        Bench.rule(mill, "sel p q q=>nop;nop;mov p q");
        Bench.rule(mill, "nop=>");
        mill.on(2, false);
        Bench.program(mill, Bench.times("nop", 22) + ";sel a b b");
        Bench.program(mill, Bench.times("nop", 21) + ";sel a b b");
        BENCH.due("sound 1", mill.told(1, 0), 0);
        BENCH.due("window to 25", mill.window(0, 22, 1), 0);
        BENCH.due("meant to 25", mill.meant(0, 22, 1, 0, 0), RuleMill.NONE);
        BENCH.due("window to 24", mill.window(1, 21, 1), 1);
        Bench.rule(mill, "sel p q q=>mov p q;nop");
        Bench.program(mill, Bench.times("nop", 23) + ";sel a b b");
        BENCH.due("sound 3", mill.told(3, 0), 1);
        BENCH.due("no room for change", mill.change(2, 23, 3), RuleMill.STATE);
        BENCH.due("no room for mill", mill.mill(2), 0);
        BENCH.due("no room, so done", mill.done(2), 1);
        mill.on(2, true);
        BENCH.due("mill makes room", mill.mill(2), 23 + 2);
        BENCH.due("text", Bench.text(mill, 2), "mov a b");
    }

    private static void meant() {
        RuleMill mill = new RuleMill();
        Bench.rule(mill, "sel r p q;set s k;shl s i=>");
        Bench.program(mill, "nop;sel d a b;set c 3;shl c 1");
        int[] registers = {3, 0, 1, 2, RuleMill.NONE};
        for (int k = 0; k < registers.length; k++) {
            BENCH.due("register " + k, mill.meant(0, 1, 0, 0, k), registers[k]);
        }
        int[] numbers = {3, 1, RuleMill.NONE};
        for (int k = 0; k < numbers.length; k++) {
            BENCH.due("number " + k, mill.meant(0, 1, 0, 1, k), numbers[k]);
        }
        BENCH.due("no window", mill.meant(0, 0, 0, 0, 0), RuleMill.NONE);
        BENCH.due("no such place", mill.meant(0, 4, 0, 0, 0), RuleMill.BAD);
        BENCH.due("no such place", mill.meant(0, -1, 0, 0, 0), RuleMill.BAD);
        BENCH.due("no such program", mill.meant(1, 0, 0, 0, 0), RuleMill.BAD);
        BENCH.due("no such rule", mill.meant(0, 0, 1, 0, 0), RuleMill.BAD);
        BENCH.due("no such sort", mill.meant(0, 1, 0, 2, 0), RuleMill.BAD);
        BENCH.due("no such sort", mill.meant(0, 1, 0, -1, 0), RuleMill.BAD);
        meantNoneSuch(mill);
    }

    /** A k that names nothing of the rule is none such, below 0 as beyond; what is BAD stays so ahead of it. */
    private static void meantNoneSuch(RuleMill mill) {
        int[] nowhere = {-1, -2, 4, 5, Integer.MIN_VALUE, Integer.MAX_VALUE};
        for (int k : nowhere) {
            for (int sort = 0; sort <= 1; sort++) {
                BENCH.due("k " + k + " in a window", mill.meant(0, 1, 0, sort, k), RuleMill.NONE);
                BENCH.due("k " + k + " without one", mill.meant(0, 0, 0, sort, k), RuleMill.NONE);
            }
            BENCH.due("k " + k + ", no such place", mill.meant(0, 4, 0, 0, k), RuleMill.BAD);
            BENCH.due("k " + k + ", no such program", mill.meant(1, 1, 0, 0, k), RuleMill.BAD);
            BENCH.due("k " + k + ", no such rule", mill.meant(0, 1, 1, 0, k), RuleMill.BAD);
            BENCH.due("k " + k + ", no such sort", mill.meant(0, 1, 0, 2, k), RuleMill.BAD);
        }
    }

    private static void changes(int w, String rule, String program, int i, String due) {
        RuleMill mill = Bench.withWidth(w);
        Bench.rule(mill, rule);
        Bench.program(mill, program);
        mill.on(0, false);
        int answer = due.isEmpty() ? 0 : due.split(";").length;
        BENCH.due("change by '" + rule + "'", mill.change(0, i, 0), answer);
        BENCH.due("changed by '" + rule + "'", Bench.text(mill, 0), due);
        BENCH.due("told(0, 8)", mill.told(0, 8), 1);
    }

    private static void change() {
        changes(2, "nop=>", "nop", 0, "");
        refuses("set p i;nop=>set p i", "nop;set a 1", 0);
        refuses("set p i;nop=>set p i", "nop;set a 1", 1);
        refuses("set p i;nop=>", "set a 1;nop", 0);
        changes(2, "set p i;inc p=>set p i+1", "inc b;set b 3;inc b;dec b", 1, "inc b;set b 0;dec b");
        changes(2, "set p i;dec p=>set p i-1", "set d 0;dec d", 0, "set d 3");
        changes(3, "set p i;dec p=>set p i-1", "set d 0;dec d", 0, "set d 7");
        changes(2, "shl p i;shl p j=>shl p i+j", "shl c 1;shl c 2;nop", 0, "shl c 2;nop");
        changes(2, "set p i;set q j;or p q=>set p i|j;set q j", "set c 1;set a 2;or c a", 0, "set c 3;set a 2");
        changes(2, "xor p q;xor q p;xor p q=>swp p q", "xor d b;xor b d;xor d b", 0, "swp d b");
        changes(2, "sel p q q=>mov p q;nop", "inc a;sel c a a;inc b", 1, "inc a;mov c a;nop;inc b");
        RuleMill mill = new RuleMill();
        Bench.rule(mill, "inc p=>");
        Bench.rule(mill, "nop=>");
        Bench.rule(mill, "nop=>nop");
        Bench.program(mill, "inc a;nop");
        BENCH.due("not sound", mill.change(0, 0, 0), RuleMill.STATE);
        BENCH.due("no gain", mill.change(0, 1, 2), RuleMill.STATE);
        BENCH.due("no window", mill.change(0, 0, 1), RuleMill.STATE);
        BENCH.due("no place", mill.change(0, 2, 1), RuleMill.BAD);
        BENCH.due("no place", mill.change(0, -1, 1), RuleMill.BAD);
        BENCH.due("no program", mill.change(1, 0, 1), RuleMill.BAD);
        BENCH.due("no rule", mill.change(0, 0, 3), RuleMill.BAD);
        BENCH.due("text", Bench.text(mill, 0), "inc a;nop");
        BENCH.due("told(0, 8)", mill.told(0, 8), 0);
        BENCH.due("change(0, 1, 1)", mill.change(0, 1, 1), 1);
    }

    /** What is refused leaves the program as it was. */
    private static void refuses(String rule, String program, int i) {
        RuleMill mill = new RuleMill();
        Bench.rule(mill, rule);
        Bench.program(mill, program);
        BENCH.due("change by '" + rule + "'", mill.change(0, i, 0), RuleMill.STATE);
        BENCH.due("text", Bench.text(mill, 0), program);
    }

    private static void mill() {
        RuleMill mill = new RuleMill();
        Bench.rule(mill, "inc p;inc p=>nop");
        Bench.rule(mill, "inc p;dec p=>");
        Bench.rule(mill, "inc p;dec p=>nop");
        Bench.rule(mill, "dec p;inc p=>");
        Bench.program(mill, "inc a;dec b;inc b;dec a;inc c");
        BENCH.due("mill(0)", mill.mill(0), 2);
        int[][] due = {{1, 3, 3}, {0, 1, 1}};
        for (int k = 0; k < 2; k++) {
            for (int what = 0; what < 3; what++) {
                BENCH.due("step(" + k + ", " + what + ")", mill.step(k, what), due[k][what]);
            }
        }
        BENCH.due("text", Bench.text(mill, 0), "inc c");
        BENCH.due("told(1, 8)", mill.told(1, 8), 1);
        BENCH.due("told(2, 8)", mill.told(2, 8), 0);
        BENCH.due("told(3, 8)", mill.told(3, 8), 1);
        BENCH.due("step(2, 0)", mill.step(2, 0), RuleMill.BAD);
        BENCH.due("step(-1, 0)", mill.step(-1, 0), RuleMill.BAD);
        BENCH.due("step(0, 3)", mill.step(0, 3), RuleMill.BAD);
        BENCH.due("step(0, -1)", mill.step(0, -1), RuleMill.BAD);
        BENCH.due("mill(1)", mill.mill(1), RuleMill.BAD);
        BENCH.due("mill(-1)", mill.mill(-1), RuleMill.BAD);
        BENCH.due("step(0, 0) behind BAD", mill.step(0, 0), 1);
        BENCH.due("mill(0) again", mill.mill(0), 0);
        BENCH.due("step(0, 0) behind none", mill.step(0, 0), RuleMill.BAD);
        mill.on(1, false);
        Bench.program(mill, "inc a;dec a");
        BENCH.due("mill(1), rule 1 off", mill.mill(1), 1);
        BENCH.due("step(0, 1)", mill.step(0, 1), 2);
        BENCH.due("text", Bench.text(mill, 1), "nop");
    }

    private static void longMills() {
        for (int n = 22; n <= 24; n++) {
            RuleMill mill = BENCH.withRules(1, "mul p q=>and p q;nop;nop", "mul p q=>and p q;nop", "mul p q=>and p q", "nop=>");
            int perOrder = 25 - n;
            Bench.program(mill, Bench.times("mul a b", n));
            BENCH.due("mill of " + n, mill.mill(0), n * perOrder);
            BENCH.due("text of " + n, Bench.text(mill, 0), Bench.times("and a b", n));
            BENCH.due("first rule of " + n, mill.step(0, 1), n - 22);
            BENCH.due("last price of " + n, mill.step(n * perOrder - 1, 2), n * 3);
            BENCH.due("changes of " + n, mill.told(n - 22, 8), n);
        }
    }

    private static void done() {
        RuleMill mill = new RuleMill();
        Bench.rule(mill, "inc p=>");
        Bench.rule(mill, "nop=>");
        Bench.program(mill, "inc a");
        Bench.program(mill, "inc a;nop");
        Bench.program(mill, "");
        BENCH.due("done(0)", mill.done(0), 1);
        BENCH.due("done(1)", mill.done(1), 0);
        BENCH.due("done(2)", mill.done(2), 1);
        mill.on(1, false);
        BENCH.due("done(1), off", mill.done(1), 1);
        mill.on(1, true);
        mill.mill(1);
        BENCH.due("done(1), milled", mill.done(1), 1);
        RuleMill first = new RuleMill();
        Bench.rule(first, "nop=>");
        Bench.program(first, "nop;inc a");
        BENCH.due("not done at place 0, rule 0", first.done(0), 0);
        BENCH.due("done(3)", mill.done(3), RuleMill.BAD);
        BENCH.due("done(-1)", mill.done(-1), RuleMill.BAD);
    }
}
