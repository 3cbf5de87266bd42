/**
 * The edges that promises 1 to 15 name, a method for each promise: too small, too large, empty, full, refused.
 * Those of the texts that rule() and program() read are in EdgesOfTextTest.
 */
public final class EdgesOfCallsTest {
    private static final Bench BENCH = new Bench("EdgesOfCallsTest");
    private static final int BAD = RuleMill.BAD, STATE = RuleMill.STATE, FULL = RuleMill.FULL, NONE = RuleMill.NONE;
    private static final int LEAST = Integer.MIN_VALUE, MOST = Integer.MAX_VALUE;

    public static void main(String[] args) {
        promise1();
        promise2();
        promise3();
        promise4();
        promise5();
        promise6();
        promise7();
        promise8();
        promise9();
        promise10();
        promise11();
        promise12();
        promise13();
        promise14();
        promise15();
        BENCH.close();
    }

    private static void due(String what, int got, int want) {
        BENCH.due(what, got, want);
    }

    private static void promise1() {
        RuleMill mill = new RuleMill();
        due("1: no rules", mill.count(0), 0);
        due("1: no sound ones", mill.count(1), 0);
        due("1: no programs", mill.count(2), 0);
        due("1: nothing on the tape", mill.count(3), 0);
        due("1: W 2", mill.count(4), 2);
        due("1: no steps", mill.count(5), 0);
        due("1: on(0)", mill.on(0, true), BAD);
        due("1: done(0)", mill.done(0), BAD);
        due("1: mill(0)", mill.mill(0), BAD);
        due("1: run(0, 0)", mill.run(0, 0), BAD);
        due("1: part(0, 0, 0)", mill.part(0, 0, 0), BAD);
        due("1: joined(0, 0)", mill.joined(0, 0), BAD);
        due("1: same(0, 0)", mill.same(0, 0), BAD);
        due("1: the empty tape is no rule", mill.rule(), -10);
        due("1: the empty tape is a program", mill.program(), 0);
        due("1: another object has none of it", new RuleMill().count(2), 0);
        Bench.rule(mill, "nop=>");
        mill.drop();
        due("1: another object can have its own width", new RuleMill().width(3), 2);
        due("1: this one can not", mill.width(3), STATE);
    }

    private static void promise2() {
        for (int from = 1; from <= 3; from++) {
            for (int to = 1; to <= 3; to++) {
                RuleMill mill = Bench.withWidth(from);
                due("2: what it was, " + from + " to " + to, mill.width(to), from);
                due("2: W becomes w, " + from + " to " + to, mill.count(4), to);
            }
            for (int w : new int[] {0, 4, -1, 5, LEAST, MOST, from + 256}) {
                RuleMill mill = Bench.withWidth(from);
                due("2: BAD, width(" + w + ")", mill.width(w), BAD);
                due("2: BAD changes nothing", mill.count(4), from);
            }
        }
        RuleMill mill = BENCH.withPrograms("");
        due("2: STATE, an empty program", mill.width(2), STATE);
        due("2: BAD ahead of STATE", mill.width(0), BAD);
        due("2: STATE changes nothing", mill.width(3) * 10 + mill.count(4), STATE * 10 + 2);
        mill.drop();
        due("2: no program any more", mill.width(3), 2);
        Bench.program(mill, "x");
        Bench.rule(mill, "x");
        due("2: texts with faults are none", mill.width(1), 3);
        Bench.rule(mill, "inc p=>");
        due("2: STATE, a rule that is not sound", mill.width(1), STATE);
        mill.on(0, false);
        due("2: STATE, a rule that is off", mill.width(2), STATE);
        due("2: BAD ahead of STATE", mill.width(4), BAD);
        RuleMill fed = new RuleMill();
        Bench.lay(fed, "set a 7");
        due("2: with a tape", fed.width(3), 2);
        due("2: the tape is as it was", fed.program(), 0);
        due("2: and read with the new W", fed.order(0, 0, 2), 7);
    }

    private static void promise3() {
        RuleMill mill = new RuleMill();
        Bench.lay(mill, "inc d");
        for (int had = 5; had <= 380; had += 20) {
            due("3: how many it has", mill.feed(0, -1, LEAST, MOST, 1), had + 20);
        }
        due("3: 385 and 20 are more than 400", mill.feed(0, 0, 0, 0, 0), FULL);
        due("3: FULL changes nothing", mill.count(3), 385);
        mill.end(5);
        due("3: nor what is there", mill.program(), 0);
        BENCH.due("3: as it was", Bench.text(mill, 0), "inc d");
        for (int k = 1; k <= 20; k++) {
            due("3: feed " + k, mill.feed(0x20202020, 0x20202020, 0x20202020, 0x20202020, 0x20202020), 20 * k);
        }
        due("3: 400 are not more than 400", mill.count(3), 400);
        due("3: 420 are", mill.feed(0, 0, 0, 0, 0), FULL);
        due("3: 400 blanks still", mill.program(), 1);
        due("3: behind a program it begins anew", mill.feed(0, 0, 0, 0, 0), 20);
        for (int left = 380; left <= 400; left++) {
            RuleMill near = new RuleMill();
            Bench.lay(near, " ".repeat(left));
            due("3: twenty more on " + left, near.feed(0, 0, 0, 0, 0), left == 380 ? 400 : FULL);
            due("3: there are then", near.count(3), left == 380 ? 400 : left);
        }
        highestFirst();
    }

    /** Each of the twenty places, and bytes above 127 as they are. */
    private static void highestFirst() {
        for (int place = 0; place < 20; place++) {
            int[] five = {0x20202020, 0x20202020, 0x20202020, 0x20202020, 0x20202020};
            five[place / 4] ^= (0x20 ^ 0xA0) << 24 - place % 4 * 8;
            RuleMill mill = new RuleMill();
            mill.feed(five[0], five[1], five[2], five[3], five[4]);
            due("3: byte " + place + " is none of a text", mill.program(), -10 - place);
        }
        RuleMill mill = new RuleMill();
        mill.feed('s' << 24 | 'e' << 16 | 't' << 8 | ' ', 'd' << 24 | ' ' << 16 | '3' << 8 | ';', 0x6e6f703b, 0x6e6f703b, 0x6e6f7020);
        due("3: of each the highest first", mill.program(), 0);
        BENCH.due("3: text", Bench.text(mill, 0), "set d 3;nop;nop;nop");
    }

    private static void promise4() {
        RuleMill mill = new RuleMill();
        due("4: 0 of none", mill.end(0), 0);
        for (int n : new int[] {1, -1, 20, LEAST, MOST}) {
            due("4: BAD, end(" + n + ") of none", mill.end(n), BAD);
        }
        Bench.lay(mill, "inc a;x");
        for (int n : Bench.outside(8)) {
            due("4: BAD, end(" + n + ") of 7", mill.end(n), BAD);
            due("4: BAD changes nothing", mill.count(3), 7);
        }
        due("4: all that are there", mill.end(7), 7);
        due("4: one less", mill.end(6), 7);
        due("4: what it had", mill.end(5), 6);
        due("4: what is gone does not come back", mill.end(6), BAD);
        due("4: fed behind what is left", mill.feed(0x3b6e6f70, 0x20202020, 0x20202020, 0x20202020, 0x20202020), 25);
        due("4: it keeps its first bytes", mill.program(), 0);
        BENCH.due("4: text", Bench.text(mill, 0), "inc a;nop");
        due("4: none left", mill.end(0), 0);
        Bench.lay(mill, " ".repeat(400));
        due("4: 401 of 400", mill.end(401), BAD);
        due("4: 400 of 400", mill.end(400), 400);
        due("4: 0 of 400", mill.end(0), 400);
        due("4: then it is empty", mill.count(3), 0);
    }

    private static void promise5() {
        RuleMill mill = new RuleMill();
        for (int k = 0; k < 24; k++) {
            due("5: a text with a fault takes no number", Bench.rule(mill, "nop"), -13);
            due("5: its number", Bench.rule(mill, "inc p;dec p=>"), k);
            due("5: which is on", mill.told(k, 9), 1);
            due("5: the tape is empty then", mill.count(3), 0);
        }
        for (String text : new String[] {"inc p;dec p=>", "nop", "", "nop;nop;nop;nop;nop=>"}) {
            mill.end(0);
            Bench.lay(mill, text);
            due("5: FULL, 24 are there, '" + text + "'", mill.rule(), FULL);
            due("5: the tape stays", mill.count(3), text.length());
            due("5: no rule more", mill.count(0), 24);
        }
        mill.end(0);
        Bench.lay(mill, "inc b");
        due("5: FULL", mill.rule(), FULL);
        due("5: the tape stays as it is", mill.program(), 0);
        BENCH.due("5: text", Bench.text(mill, 0), "inc b");
        due("5: programs do not count", BENCH.withPrograms("", "", "").rule(), -10);
    }

    private static void promise6() {
        RuleMill mill = new RuleMill();
        for (int k = 0; k < 16; k++) {
            due("6: a text with a fault takes no number", Bench.program(mill, "inc e"), -14);
            due("6: its number", Bench.program(mill, Bench.times("inc a", k)), k);
            due("6: the tape is empty then", mill.count(3), 0);
            due("6: its orders", mill.size(k, 0), k);
        }
        for (String text : new String[] {"nop", "x", ""}) {
            mill.end(0);
            Bench.lay(mill, text);
            due("6: FULL, 16 are there, '" + text + "'", mill.program(), FULL);
            due("6: the tape stays", mill.count(3), text.length());
            due("6: no program more", mill.count(2), 16);
        }
        Bench.lay(mill, "nop=>");
        due("6: FULL", mill.program(), FULL);
        due("6: the tape stays as it is", mill.rule(), 0);
        Bench.lay(mill, "dec c");
        due("6: one goes", mill.drop(), 15);
        due("6: and one comes", mill.program(), 15);
        BENCH.due("6: text", Bench.text(mill, 15), "dec c");
    }

    private static void promise7() {
        RuleMill mill = Bench.withWidth(3);
        due("7: 0 at first", mill.fault(), 0);
        String[] texts = {"nop", "set p 16=>", "inc p=>inc q", "nop;nop;nop;nop;nop=>", "get p i=>", "nop=>"};
        for (int k = 0; k < texts.length; k++) {
            Bench.rule(mill, texts[k]);
            due("7: of rule '" + texts[k] + "'", mill.fault(), k < 5 ? k + 1 : 0);
        }
        String[] programs = {"x", "set a 16", "", Bench.times("nop", 25), "nop"};
        int[] faults = {1, 2, 0, 4, 0};
        for (int k = 0; k < programs.length; k++) {
            Bench.program(mill, programs[k]);
            due("7: of program '" + programs[k] + "'", mill.fault(), faults[k]);
        }
        Bench.program(mill, "set a 16");
        mill.width(9);
        mill.joined(0, 9);
        mill.part(0, 0, 0);
        mill.mill(0);
        mill.drop();
        mill.feed(0, 0, 0, 0, 0);
        mill.end(0);
        due("7: other calls leave it", mill.fault(), 2);
        due("7: asked twice", mill.fault(), 2);
        faultBehindFull();
    }

    private static void faultBehindFull() {
        RuleMill mill = new RuleMill();
        for (int k = 0; k < 24; k++) {
            Bench.rule(mill, "nop=>");
        }
        for (int k = 0; k < 16; k++) {
            Bench.program(mill, "");
        }
        due("7: 0", mill.fault(), 0);
        Bench.lay(mill, "x");
        due("7: FULL", mill.rule(), FULL);
        due("7: FULL", mill.program(), FULL);
        due("7: not of one that was FULL", mill.fault(), 0);
        mill.drop();
        due("7: not FULL", mill.program(), -10);
        Bench.program(mill, "");
        Bench.lay(mill, "nop");
        due("7: FULL", mill.program(), FULL);
        due("7: 0 of the one before, not 1", mill.fault(), 0);
        mill.drop();
        mill.end(0);
        due("7: a fault", Bench.program(mill, "set a 99"), -16);
        due("7: FULL", mill.rule(), FULL);
        due("7: still that fault", mill.fault(), 2);
    }

    private static void promise8() {
        RuleMill mill = new RuleMill();
        due("8: BAD, none there", mill.on(0, true), BAD);
        for (int k = 0; k < 24; k++) {
            Bench.rule(mill, "nop=>");
        }
        for (int r : Bench.outside(24)) {
            due("8: BAD, on(" + r + ")", mill.on(r, false), BAD);
        }
        for (int k = 0; k < 24; k++) {
            due("8: BAD changes none", mill.told(k, 9), 1);
        }
        due("8: it was on", mill.on(23, false), 1);
        due("8: off now", mill.told(23, 9), 0);
        due("8: no other", mill.told(22, 9), 1);
        due("8: it was off", mill.on(23, false), 0);
        due("8: it was off", mill.on(23, true), 0);
        due("8: it was on", mill.on(23, true), 1);
        due("8: on now", mill.told(23, 9), 1);
    }

    private static void tells(int w, String text, int... due) {
        RuleMill mill = BENCH.withRules(w, text);
        for (int what = 0; what < due.length; what++) {
            due("9: told(0, " + what + ") of '" + text + "', W " + w, mill.told(0, what), due[what]);
        }
    }

    private static void promise9() {
        String mul = Bench.times("mul p p", 4);
        tells(2, mul + "=>", 0, 24, 4, 2, 4, 0, 1, 0, 0, 1);
        tells(2, "inc p=>" + mul, 0, -23, 4, 0, 1, 4, 1, 0, 0, 1);
        tells(2, mul + "=>" + mul, 0, 0, 4, 4, 4, 4, 1, 0, 0, 1);
        tells(2, "nop=>inc p;dec p".replace("nop", "nop;mov p p"), 1, 1, 4, 4, 2, 2, 1, 0, 0, 1);
        tells(2, "mov p p=>inc p;dec p", 0, 0, 4, 4, 1, 2, 1, 0, 0, 1);
        tells(2, "mov p p=>inc p;dec p;nop", 0, -1, 4, 4, 1, 3, 1, 0, 0, 1);
        tells(3, "nop=>", 1, 1, 1, 1, 1, 0, 0, 0, 0, 1);
        tells(1, "inc p=>", 0, 1, 2, 0, 1, 0, 1, 0, 0, 1);
        tells(2, "sel p q r;get s 0=>sel p q r;get s 0", 0, 0, 65536, 65536, 2, 2, 4, 0, 0, 1);
        tells(1, "sel p q r;set s i;set s j;set s k=>sel p q r;set s k", 1, 4, 128, 128, 4, 2, 4, 3, 0, 1);
        tells(1, "and p q;and p r;and p s=>set p 0", 0, 7, 16, 15, 3, 1, 4, 0, 0, 1);
        RuleMill mill = BENCH.withRules(2, "nop=>", "inc p=>");
        for (int what : Bench.outside(10)) {
            due("9: BAD, told(0, " + what + ")", mill.told(0, what), BAD);
        }
        for (int r : Bench.outside(2)) {
            for (int what = 0; what <= 9; what++) {
                due("9: BAD, told(" + r + ", " + what + ")", mill.told(r, what), BAD);
            }
        }
        howOften();
    }

    /** By change() and by each step of mill(), and not when it was refused. */
    private static void howOften() {
        RuleMill mill = BENCH.withRules(2, "nop=>", "inc p;dec p=>");
        Bench.program(mill, "nop;nop;inc a;dec a;nop");
        due("9: not yet", mill.told(0, 8), 0);
        mill.window(0, 0, 0);
        mill.meant(0, 0, 0, 0, 0);
        mill.done(0);
        due("9: looking is not changing", mill.told(0, 8), 0);
        mill.change(0, 2, 0);
        mill.change(0, 9, 0);
        due("9: nor what is refused", mill.told(0, 8), 0);
        mill.change(0, 0, 0);
        due("9: once", mill.told(0, 8), 1);
        mill.mill(0);
        due("9: twice more by milling", mill.told(0, 8), 3);
        due("9: the other once", mill.told(1, 8), 1);
        mill.drop();
        due("9: the program's going changes nothing", mill.told(0, 8), 3);
    }

    private static void wrongIs(int w, String text, int... due) {
        RuleMill mill = BENCH.withRules(w, text);
        for (int i = 0; i < due.length; i++) {
            due("10: wrong(0, " + i + ") of '" + text + "', W " + w, mill.wrong(0, i), due[i]);
        }
        for (int i : Bench.outside(due.length)) {
            due("10: BAD, wrong(0, " + i + ") of '" + text + "', W " + w, mill.wrong(0, i), BAD);
        }
        for (int r : Bench.outside(1)) {
            due("10: BAD, wrong(" + r + ", 0)", mill.wrong(r, 0), BAD);
        }
    }

    private static void promise10() {
        wrongIs(2, "nop=>");
        wrongIs(2, "nop=>nop;nop");
        wrongIs(2, "inc p=>inc p", NONE);
        wrongIs(2, "inc p=>nop", 0);
        wrongIs(1, "mov p q=>mov p q", NONE, NONE);
        wrongIs(1, "and p q;and p r;and p s=>set p 0", 1, 1, 1, 1);
        wrongIs(3, "not p;shr p 2=>set p 1", 4);
        wrongIs(3, "dec p;shr p 2;shl p 2=>set p 0", 0);
        wrongIs(3, "inc p;shr p 2=>shr p 2", 3);
        wrongIs(1, "get p i=>get p i", NONE, NONE, NONE, NONE, NONE, NONE);
        wrongIs(1, "get p 2=>nop", 0, 0, 0, 1, 0);
        wrongIs(1, "nop;inc p;dec p=>put p 1", 0, 0, 1, 0, 0);
        wrongIs(1, "sel p q r;put s i;set p j;set q k=>", 0, 0, 0, 0, 0, 0, 0, 0, 0, 0, 1);
        wrongIs(2, "shr s k;set r i=>shr s k", 0, 0, 0, 1);
        wrongIs(2, "set s k;set r i=>set s k;set r 0", 0, 0, 0, 1);
        wrongIs(3, "shl p i;shr p i=>", 1, 3);
        wrongIs(3, "shl p 1;shr p 1=>", 4);
        RuleMill mill = BENCH.withRules(1, "inc p=>", "dec p=>dec p", "and p q=>set p 0");
        due("10: each its own, 0", mill.wrong(0, 0), 0);
        due("10: each its own, 1", mill.wrong(1, 0), NONE);
        due("10: each its own, 2", mill.wrong(2, 1), 1);
    }

    private static void promise11() {
        RuleMill mill = BENCH.withPrograms("", "nop", Bench.times("nop", 23) + ";sel d c b", "set a 3");
        int[] orders = {0, 1, 24, 1};
        for (int p = 0; p < 4; p++) {
            for (int i : Bench.outside(orders[p])) {
                due("11: BAD, order(" + p + ", " + i + ", 0)", mill.order(p, i, 0), BAD);
            }
            for (int what : Bench.outside(4)) {
                due("11: BAD, order(" + p + ", 0, " + what + ")", mill.order(p, 0, what), BAD);
            }
        }
        for (int p : Bench.outside(4)) {
            due("11: BAD, order(" + p + ", 0, 0)", mill.order(p, 0, 0), BAD);
        }
        int[][] due = {{17, 0, 0, 0}, {14, 3, 2, 1}, {0, 0, 3, 0}};
        for (int what = 0; what < 4; what++) {
            due("11: nothing belongs to nop", mill.order(1, 0, what), due[0][what]);
            due("11: the 24th", mill.order(2, 23, what), due[1][what]);
            due("11: nothing more to set", mill.order(3, 0, what), due[2][what]);
        }
    }

    private static void promise12() {
        RuleMill mill = BENCH.withPrograms("", Bench.times("mul a a", 24), "nop");
        int[][] due = {{0, 0}, {24, 144}, {1, 1}};
        for (int p = 0; p < 3; p++) {
            due("12: orders of " + p, mill.size(p, 0), due[p][0]);
            due("12: prices of " + p, mill.size(p, 1), due[p][1]);
            for (int what : Bench.outside(2)) {
                due("12: BAD, size(" + p + ", " + what + ")", mill.size(p, what), BAD);
            }
        }
        for (int p : Bench.outside(3)) {
            due("12: BAD, size(" + p + ", 0)", mill.size(p, 0), BAD);
            due("12: BAD, size(" + p + ", 1)", mill.size(p, 1), BAD);
        }
    }

    private static void textIs(RuleMill mill, int p, String due) {
        for (int i = 0; i < due.length(); i++) {
            due("13: letter(" + p + ", " + i + ") of '" + due + "'", mill.letter(p, i), due.charAt(i));
        }
        due("13: the end of '" + due + "'", mill.letter(p, due.length()), 0);
        for (int i : Bench.outside(due.length() + 1)) {
            due("13: BAD, letter(" + p + ", " + i + ")", mill.letter(p, i), BAD);
        }
    }

    private static void promise13() {
        textIs(BENCH.withPrograms("   "), 0, "");
        textIs(BENCH.withPrograms("  nop  "), 0, "nop");
        textIs(BENCH.withPrograms("or   a   b  ;  or c d"), 0, "or a b;or c d");
        textIs(BENCH.withPrograms("set a 15;shl b 15;get c 7;put d 09"), 0, "set a 3;shl b 2;get c 3;put d 1");
        textIs(BENCH.withPrograms(Bench.times("sel a b c", 24)), 0, Bench.times("sel a b c", 24));
        RuleMill mill = BENCH.withPrograms("nop");
        for (int p : Bench.outside(1)) {
            due("13: BAD, letter(" + p + ", 0)", mill.letter(p, 0), BAD);
        }
    }

    private static void promise14() {
        int[][] sizes = {{0, 0}, {0, 24}, {24, 0}, {12, 12}, {1, 23}, {23, 1}, {12, 13}, {24, 1}, {1, 24}, {24, 24}};
        for (int[] size : sizes) {
            RuleMill mill = BENCH.withPrograms(Bench.times("inc a", size[0]), Bench.times("dec b", size[1]));
            boolean fits = size[0] + size[1] <= 24;
            due("14: joined, " + size[0] + " and " + size[1], mill.joined(0, 1), fits ? 2 : FULL);
            due("14: programs then", mill.count(2), fits ? 3 : 2);
            String gap = size[0] > 0 && size[1] > 0 ? ";" : "";
            BENCH.due("14: text", Bench.text(mill, 2), fits ? Bench.times("inc a", size[0]) + gap + Bench.times("dec b", size[1]) : "");
            BENCH.due("14: the one stays", Bench.text(mill, 0), Bench.times("inc a", size[0]));
            BENCH.due("14: the other stays", Bench.text(mill, 1), Bench.times("dec b", size[1]));
        }
        RuleMill mill = BENCH.withPrograms(Bench.times("nop", 12));
        due("14: with itself", mill.joined(0, 0), 1);
        due("14: with itself, more than 24", mill.joined(1, 1), FULL);
        for (int p : Bench.outside(2)) {
            due("14: BAD, joined(" + p + ", 0)", mill.joined(p, 0), BAD);
            due("14: BAD, joined(0, " + p + ")", mill.joined(0, p), BAD);
        }
        for (int k = 2; k < 16; k++) {
            due("14: its number", mill.joined(0, 0), k);
        }
        due("14: FULL, 16 are there", mill.joined(0, 0), FULL);
        due("14: BAD ahead of FULL", mill.joined(0, 16), BAD);
        due("14: BAD ahead of FULL", mill.joined(-1, 0), BAD);
        due("14: FULL changes nothing", mill.count(2), 16);
        ownOrders();
    }

    /** A program made from others has orders of its own. */
    private static void ownOrders() {
        RuleMill mill = BENCH.withRules(2, "nop=>");
        Bench.program(mill, "nop;inc a");
        mill.joined(0, 0);
        mill.part(0, 0, 2);
        mill.mill(0);
        BENCH.due("14: one is milled", Bench.text(mill, 0), "inc a");
        BENCH.due("14: not what was joined from it", Bench.text(mill, 1), "nop;inc a;nop;inc a");
        BENCH.due("15: nor its part", Bench.text(mill, 2), "nop;inc a");
        mill.mill(2);
        BENCH.due("15: and the other way", Bench.text(mill, 0), "inc a");
    }

    private static void promise15() {
        RuleMill mill = BENCH.withPrograms("inc a;inc b;inc c", "");
        String[] words = {"inc a", "inc b", "inc c"};
        for (int from = 0; from <= 3; from++) {
            for (int to = from; to <= 3; to++) {
                due("15: part(0, " + from + ", " + to + ")", mill.part(0, from, to), 2);
                String text = String.join(";", java.util.Arrays.copyOfRange(words, from, to));
                BENCH.due("15: text", Bench.text(mill, 2), text);
                due("15: orders", mill.size(2, 0), to - from);
                mill.drop();
            }
        }
        int[][] bad = {{1, 0}, {3, 2}, {-1, 0}, {-1, -1}, {0, 4}, {4, 4}, {3, 4}, {0, MOST}, {LEAST, 0}, {LEAST, MOST}, {MOST, LEAST}, {0, -1}};
        for (int[] range : bad) {
            due("15: BAD, part(0, " + range[0] + ", " + range[1] + ")", mill.part(0, range[0], range[1]), BAD);
        }
        due("15: none of none", mill.part(1, 0, 0), 2);
        due("15: BAD, one of none", mill.part(1, 0, 1), BAD);
        for (int p : Bench.outside(3)) {
            due("15: BAD, part(" + p + ", 0, 0)", mill.part(p, 0, 0), BAD);
        }
        for (int k = 3; k < 16; k++) {
            due("15: its number", mill.part(0, 0, 3), k);
        }
        due("15: FULL, 16 are there", mill.part(0, 0, 1), FULL);
        due("15: FULL, none of them too", mill.part(0, 0, 0), FULL);
        due("15: BAD ahead of FULL", mill.part(0, 0, 4), BAD);
        due("15: FULL changes nothing", mill.count(2), 16);
        RuleMill whole = BENCH.withPrograms(Bench.times("swp a b", 24));
        due("15: all 24", whole.part(0, 0, 24), 1);
        BENCH.due("15: text", Bench.text(whole, 1), Bench.times("swp a b", 24));
        due("15: the 24th alone", whole.part(0, 23, 24), 2);
        due("15: BAD, the 25th", whole.part(0, 24, 25), BAD);
    }
}
