/** Promises 8 to 10: on, told, wrong. */
public final class RuleTest {
    private static final Bench BENCH = new Bench("RuleTest");

    public static void main(String[] args) {
        on();
        told();
        soundness();
        sums();
        ranges();
        wrong();
        BENCH.close();
    }

    private static void on() {
        RuleMill mill = new RuleMill();
        Bench.rule(mill, "nop=>");
        BENCH.due("on(0, false)", mill.on(0, false), 1);
        BENCH.due("told(0, 9)", mill.told(0, 9), 0);
        BENCH.due("on(0, false)", mill.on(0, false), 0);
        BENCH.due("on(0, true)", mill.on(0, true), 0);
        BENCH.due("on(0, true)", mill.on(0, true), 1);
        BENCH.due("on(1, true)", mill.on(1, true), RuleMill.BAD);
        BENCH.due("on(-1, true)", mill.on(-1, true), RuleMill.BAD);
    }

    private static void tells(int w, String text, int... due) {
        RuleMill mill = Bench.withWidth(w);
        BENCH.due("rule '" + text + "'", Bench.rule(mill, text), 0);
        for (int what = 0; what < due.length; what++) {
            BENCH.due("told(0, " + what + ") of '" + text + "', W " + w, mill.told(0, what), due[what]);
        }
    }

    private static void told() {
        tells(2, "nop=>", 1, 1, 1, 1, 1, 0, 0, 0, 0, 1);
        tells(2, "nop=>nop", 0, 0, 1, 1, 1, 1, 0, 0, 0, 1);
        tells(2, "nop=>nop;nop", 0, -1, 1, 1, 1, 2, 0, 0, 0, 1);
        tells(2, "put p i;get q i=>put p i;mov q p", 1, 2, 16384, 16384, 2, 2, 2, 1, 0, 1);
        tells(2, "inc p=>dec p", 0, 0, 4, 0, 1, 1, 1, 0, 0, 1);
        tells(1, "add p q;nop=>xor p q", 1, 1, 4, 4, 2, 1, 2, 0, 0, 1);
        tells(2, "add p q;nop=>xor p q", 0, 1, 16, 12, 2, 1, 2, 0, 0, 1);
        RuleMill mill = new RuleMill();
        Bench.rule(mill, "nop=>");
        BENCH.due("told(0, 10)", mill.told(0, 10), RuleMill.BAD);
        BENCH.due("told(0, -1)", mill.told(0, -1), RuleMill.BAD);
        BENCH.due("told(1, 0)", mill.told(1, 0), RuleMill.BAD);
        BENCH.due("told(-1, 0)", mill.told(-1, 0), RuleMill.BAD);
    }

    private static void sound(int w, String text, int due) {
        RuleMill mill = Bench.withWidth(w);
        BENCH.due("rule '" + text + "'", Bench.rule(mill, text), 0);
        BENCH.due("sound '" + text + "', W " + w, mill.told(0, 0), due);
    }

    private static void soundness() {
        for (int w = 1; w <= 3; w++) {
            sound(w, "mul p q;nop=>mul p q", 1);
            sound(w, "sub p p=>set p 0", 1);
            sound(w, "xor p q;xor q p;xor p q=>swp p q", 1);
            sound(w, "not p;inc p;nop=>neg p", 1);
            sound(w, "and p p=>", 1);
            sound(w, "or p q;or p q=>or p q", 1);
            sound(w, "sel p q q;nop=>mov p q", 1);
            sound(w, "sel p q r=>mov p q", 0);
            sound(w, "shl p 15=>set p 0", 0);
            sound(w, "shl p 15;nop=>set p 0", 1);
            sound(w, "shl p 1;nop=>add p p", 0);
            sound(w, "shl p 1;shr p 1=>set p 0", w == 1 ? 1 : 0);
            sound(w, "swp p q;swp p q=>", 1);
            sound(w, "swp p q;swp q p=>", 1);
            sound(w, "dec p;inc p=>", 1);
            sound(w, "mov p q;mov q p=>mov p q", 1);
            sound(w, "mul p p=>mov p p", w == 1 ? 1 : 0);
            sound(w, "set p i;set p j=>set p j", 1);
            sound(w, "set p i;set p j=>set p i", 0);
        }
        sound(2, "put p 1;put q 2=>put q 2;put p 1", 0);
        sound(2, "put p 1;put q 2;nop=>put q 2;put p 1", 1);
        sound(2, "put p 1;put q 5;nop=>put q 5;put p 1", 0);
        sound(2, "put p 1;put p 1=>put p 1", 1);
    }

    private static void sums() {
        for (int w = 1; w <= 3; w++) {
            sound(w, "set p i;inc p=>set p i+1", 1);
            sound(w, "set p i;dec p=>set p i-1", 1);
            sound(w, "set p i;neg p=>set p 0-i", 1);
            sound(w, "set p i;set q j;and p q=>set p i&j;set q j", 1);
            sound(w, "set p i;set q j;or p q=>set p i|j;set q j", 1);
            sound(w, "set p i;set q j;xor p q=>set p i^j;set q j", 1);
            sound(w, "set p i;set q j;xor p q=>set p i-j;set q j", w == 1 ? 1 : 0);
            sound(w, "set p i;not p=>set p 15-i", 1);
            sound(w, "shl p i;shl p j=>shl p i+j", 1);
            sound(w, "shr p i;shr p j=>shr p j+i", 1);
        }
        sound(2, "shl p i;nop=>shl p i-15", 0);
        sound(2, "shl p 1;nop=>shl p 2-1", 1);
        sound(2, "shl p 0;nop=>shl p 15+1", 1);
        sound(2, "shl p 2;nop=>shl p 0-1", 1);
        sound(2, "get p 3;nop=>get p 0-1", 1);
        sound(2, "set p 3;nop=>set p 0-1", 1);
    }

    private static void ranges() {
        int[][] due = {{0, 2, 4, 2, 2}, {0, 4, 4, 3, 3}, {0, 8, 0, 4, 4}};
        for (int w = 1; w <= 3; w++) {
            int word = 1 << w;
            assignments(w, "set p i=>", word * due[w - 1][1]);
            assignments(w, "shl p i=>", word * due[w - 1][3]);
            assignments(w, "shr p i=>set p i", word * due[w - 1][4]);
            assignments(w, "set p i;shl q i=>", word * word * Math.min(due[w - 1][1], due[w - 1][3]));
        }
        assignments(1, "get p i=>", 2 * 16 * 4);
        assignments(2, "set p k;shl p i=>", 4 * 4 * 3);
        assignments(2, "shl p k;set p i;shr p j=>", 4 * 3 * 4 * 3);
        assignments(1, "put p i;set p i=>", 2 * 16 * 2);
        assignments(2, "put p i;shl p i=>", 4 * 256 * 3);
        assignments(2, "set p i=>get p i", 4 * 256 * 4);
        assignments(2, "nop=>get p i", -1);
    }

    private static void assignments(int w, String text, int due) {
        RuleMill mill = Bench.withWidth(w);
        Bench.rule(mill, text);
        BENCH.due("assignments of '" + text + "', W " + w, mill.told(0, 2), due);
    }

    private static void wrongIs(int w, String text, int... due) {
        RuleMill mill = Bench.withWidth(w);
        Bench.rule(mill, text);
        for (int i = 0; i < due.length; i++) {
            BENCH.due("wrong(0, " + i + ") of '" + text + "', W " + w, mill.wrong(0, i), due[i]);
        }
    }

    private static void wrong() {
        wrongIs(2, "inc p=>dec p", 0, RuleMill.BAD);
        wrongIs(2, "add p q=>xor p q", 1, 1, RuleMill.BAD);
        wrongIs(2, "mov q p=>", 0, 1, RuleMill.BAD);
        wrongIs(2, "mov q p;nop=>mov p q", 0, 1, RuleMill.BAD);
        wrongIs(2, "shl p i;shl p j=>shl p i|j", 1, 1, 1, RuleMill.BAD);
        wrongIs(2, "put p i=>nop", 0, 0, 0, 0, 1, 3, RuleMill.BAD);
        wrongIs(2, "get p 0=>set p 0", 0, 1, 0, 0, 0, RuleMill.BAD);
        wrongIs(2, "get p 3=>set p 0", 0, 0, 0, 0, 1, RuleMill.BAD);
        wrongIs(1, "sel p q r;mov q s=>sel p q r", 0, 0, 0, 1, RuleMill.BAD);
        wrongIs(1, "put p i;set p j=>put p i;set p i", 0, 0, 0, 0, 0, 0, 1, RuleMill.BAD);
        wrongIs(2, "nop=>", RuleMill.BAD);
        wrongIs(2, "inc p=>inc p", RuleMill.NONE, RuleMill.BAD);
        wrongIs(2, "inc p;nop=>inc p", RuleMill.NONE, RuleMill.BAD);
        RuleMill mill = new RuleMill();
        Bench.rule(mill, "inc p=>");
        BENCH.due("wrong(0, -1)", mill.wrong(0, -1), RuleMill.BAD);
        BENCH.due("wrong(1, 0)", mill.wrong(1, 0), RuleMill.BAD);
        BENCH.due("wrong(-1, 0)", mill.wrong(-1, 0), RuleMill.BAD);
    }
}
