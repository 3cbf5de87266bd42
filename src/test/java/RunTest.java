/** Promises 22 to 24: run, same, differs. */
public final class RunTest {
    private static final Bench BENCH = new Bench("RunTest");

    public static void main(String[] args) {
        orders();
        edges();
        same();
        BENCH.close();
    }

    /** Words a, b, c, d, then the cells. */
    private static int bits(int w, int... words) {
        int bits = 0;
        for (int k = 0; k < words.length; k++) {
            bits |= words[k] << k * w;
        }
        return bits;
    }

    private static void leaves(int w, String program, int before, int behind) {
        RuleMill mill = Bench.withWidth(w);
        Bench.program(mill, program);
        BENCH.due("run of '" + program + "', W " + w + ", from " + before, mill.run(0, before), behind);
    }

    private static void orders() {
        int before = bits(3, 5, 3, 0, 7, 1, 2, 4, 6);
        leaves(3, "", before, before);
        leaves(3, "nop", before, before);
        leaves(3, "set a 12", before, bits(3, 4, 3, 0, 7, 1, 2, 4, 6));
        leaves(3, "mov a b", before, bits(3, 3, 3, 0, 7, 1, 2, 4, 6));
        leaves(3, "add a b", before, bits(3, 0, 3, 0, 7, 1, 2, 4, 6));
        leaves(3, "sub b a", before, bits(3, 5, 6, 0, 7, 1, 2, 4, 6));
        leaves(3, "and a b", before, bits(3, 1, 3, 0, 7, 1, 2, 4, 6));
        leaves(3, "or a b", before, bits(3, 7, 3, 0, 7, 1, 2, 4, 6));
        leaves(3, "xor a b", before, bits(3, 6, 3, 0, 7, 1, 2, 4, 6));
        leaves(3, "mul a b", before, bits(3, 7, 3, 0, 7, 1, 2, 4, 6));
        leaves(3, "inc d", before, bits(3, 5, 3, 0, 0, 1, 2, 4, 6));
        leaves(3, "dec c", before, bits(3, 5, 3, 7, 7, 1, 2, 4, 6));
        leaves(3, "not a", before, bits(3, 2, 3, 0, 7, 1, 2, 4, 6));
        leaves(3, "neg a", before, bits(3, 3, 3, 0, 7, 1, 2, 4, 6));
        leaves(3, "shl a 1", before, bits(3, 2, 3, 0, 7, 1, 2, 4, 6));
        leaves(3, "shr a 2", before, bits(3, 1, 3, 0, 7, 1, 2, 4, 6));
        leaves(3, "shl a 3", before, bits(3, 0, 3, 0, 7, 1, 2, 4, 6));
        leaves(3, "shr d 15", before, bits(3, 5, 3, 0, 0, 1, 2, 4, 6));
        leaves(3, "shr d 0", before, before);
        leaves(3, "sel a b d", before, bits(3, 3, 3, 0, 7, 1, 2, 4, 6));
        leaves(3, "sel c b d", before, bits(3, 5, 3, 7, 7, 1, 2, 4, 6));
        leaves(3, "get c 3", before, bits(3, 5, 3, 6, 7, 1, 2, 4, 6));
        leaves(3, "put a 2", before, bits(3, 5, 3, 0, 7, 1, 2, 5, 6));
        leaves(3, "swp a d", before, bits(3, 7, 3, 0, 5, 1, 2, 4, 6));
        leaves(3, "swp a a;add a a", before, bits(3, 2, 3, 0, 7, 1, 2, 4, 6));
        leaves(1, "not a;not d;put a 3;xor b a", 0, bits(1, 1, 1, 0, 1, 0, 0, 0, 1));
    }

    private static void edges() {
        for (int w = 1; w <= 3; w++) {
            int most = (1 << 8 * w) - 1;
            leaves(w, "", most, most);
            leaves(w, "", most + 1, RuleMill.BAD);
            leaves(w, "", -1, RuleMill.BAD);
            leaves(w, "inc a", most, most - (1 << w) + 1);
        }
        RuleMill mill = new RuleMill();
        BENCH.due("run(0, 0)", mill.run(0, 0), RuleMill.BAD);
        Bench.program(mill, "nop");
        BENCH.due("run(1, 0)", mill.run(1, 0), RuleMill.BAD);
        BENCH.due("run(-1, 0)", mill.run(-1, 0), RuleMill.BAD);
        BENCH.due("run(0, MAX)", mill.run(0, Integer.MAX_VALUE), RuleMill.BAD);
    }

    private static void compares(int w, String one, String other, int same, int least) {
        RuleMill mill = Bench.withWidth(w);
        Bench.program(mill, one);
        Bench.program(mill, other);
        BENCH.due("same '" + one + "', '" + other + "', W " + w, mill.same(0, 1), same);
        BENCH.due("differs '" + one + "', '" + other + "', W " + w, mill.differs(), least);
    }

    private static void same() {
        compares(2, "inc a;inc a", "dec a;dec a", 1, RuleMill.NONE);
        compares(1, "inc a", "dec a", 1, RuleMill.NONE);
        compares(2, "inc a", "dec a", 0, 0);
        compares(2, "", "nop", 1, RuleMill.NONE);
        compares(2, "add a b", "xor a b", 0, bits(2, 1, 1));
        compares(1, "and a b", "set a 0", 0, bits(1, 1, 1));
        compares(2, "mul d c", "and d c", 0, bits(2, 0, 0, 2, 1));
        compares(2, "", "put d 3", 0, bits(2, 0, 0, 0, 1));
        compares(2, "get a 3", "mov a d", 0, bits(2, 0, 0, 0, 1));
        compares(2, "get a 3", "get a 2", 0, bits(2, 0, 0, 0, 0, 0, 0, 1));
        compares(2, "get a 3;set a 0", "set a 0", 1, RuleMill.NONE);
        compares(3, "nop", "nop", RuleMill.STATE, RuleMill.NONE);
        RuleMill mill = new RuleMill();
        Bench.program(mill, "inc a");
        Bench.program(mill, "add b b;inc a");
        Bench.program(mill, "inc b");
        BENCH.due("same(0, 3)", mill.same(0, 3), RuleMill.BAD);
        BENCH.due("same(-1, 0)", mill.same(-1, 0), RuleMill.BAD);
        BENCH.due("differs()", mill.differs(), RuleMill.NONE);
        BENCH.due("same(0, 1)", mill.same(0, 1), 0);
        BENCH.due("differs()", mill.differs(), 4);
        BENCH.due("same(1, 1)", mill.same(1, 1), 1);
        BENCH.due("differs() behind 1", mill.differs(), 4);
        BENCH.due("same(0, 9)", mill.same(0, 9), RuleMill.BAD);
        BENCH.due("differs() behind BAD", mill.differs(), 4);
        BENCH.due("same(2, 0)", mill.same(2, 0), 0);
        BENCH.due("differs()", mill.differs(), 0);
        RuleMill wide = Bench.withWidth(3);
        BENCH.due("same(0, 0), none there, W 3", wide.same(0, 0), RuleMill.BAD);
    }
}
