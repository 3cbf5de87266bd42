/** Promises 11 to 15, 25 and 26: order, size, letter, joined, part, count, drop. */
public final class ProgramTest {
    private static final Bench BENCH = new Bench("ProgramTest");
    private static final String ALL = "set a 1;mov b c;add a d;sub a b;and a b;or a b;xor a b;mul a b;inc c;dec d;"
        + "not a;neg b;shl c 1;shr d 2;sel b c d;get a 3;put b 2;nop;swp c d";

    public static void main(String[] args) {
        order();
        size();
        letter();
        joined();
        part();
        count();
        drop();
        BENCH.close();
    }

    private static void order() {
        RuleMill mill = new RuleMill();
        BENCH.due("program", Bench.program(mill, ALL), 0);
        int[][] due = {{0, 0, 1, 0}, {1, 1, 2, 0}, {2, 0, 3, 0}, {3, 0, 1, 0}, {4, 0, 1, 0}, {5, 0, 1, 0}, {6, 0, 1, 0},
            {7, 0, 1, 0}, {8, 2, 0, 0}, {9, 3, 0, 0}, {10, 0, 0, 0}, {11, 1, 0, 0}, {12, 2, 1, 0}, {13, 3, 2, 0},
            {14, 1, 2, 3}, {15, 0, 3, 0}, {16, 1, 2, 0}, {17, 0, 0, 0}, {18, 2, 3, 0}};
        for (int i = 0; i < due.length; i++) {
            for (int what = 0; what < 4; what++) {
                BENCH.due("order(0, " + i + ", " + what + ")", mill.order(0, i, what), due[i][what]);
            }
        }
        BENCH.due("order(0, 19, 0)", mill.order(0, 19, 0), RuleMill.BAD);
        BENCH.due("order(0, -1, 0)", mill.order(0, -1, 0), RuleMill.BAD);
        BENCH.due("order(0, 0, 4)", mill.order(0, 0, 4), RuleMill.BAD);
        BENCH.due("order(0, 0, -1)", mill.order(0, 0, -1), RuleMill.BAD);
        BENCH.due("order(1, 0, 0)", mill.order(1, 0, 0), RuleMill.BAD);
        BENCH.due("order(-1, 0, 0)", mill.order(-1, 0, 0), RuleMill.BAD);
        keptNumbers();
    }

    private static void keptNumbers() {
        int[][] due = {{1, 1, 1, 1}, {1, 2, 2, 1}, {5, 3, 3, 1}};
        for (int w = 1; w <= 3; w++) {
            RuleMill mill = Bench.withWidth(w);
            Bench.program(mill, "set a 13;shl a 12;shr a 3;get a 9");
            for (int i = 0; i < 4; i++) {
                BENCH.due("number " + i + ", W " + w, mill.order(0, i, 2), due[w - 1][i]);
            }
        }
    }

    private static void size() {
        RuleMill mill = new RuleMill();
        Bench.program(mill, ALL);
        Bench.program(mill, "");
        BENCH.due("size(0, 0)", mill.size(0, 0), 19);
        BENCH.due("size(0, 1)", mill.size(0, 1), 50);
        BENCH.due("size(1, 0)", mill.size(1, 0), 0);
        BENCH.due("size(1, 1)", mill.size(1, 1), 0);
        BENCH.due("size(0, 2)", mill.size(0, 2), RuleMill.BAD);
        BENCH.due("size(0, -1)", mill.size(0, -1), RuleMill.BAD);
        BENCH.due("size(2, 0)", mill.size(2, 0), RuleMill.BAD);
        int[] prices = {2, 2, 3, 3, 3, 3, 3, 6, 1, 1, 1, 2, 2, 2, 4, 4, 4, 1, 3};
        for (int i = 0; i < prices.length; i++) {
            mill.part(0, i, i + 1);
            BENCH.due("price " + i, mill.size(2, 1), prices[i]);
            mill.drop();
        }
    }

    private static void letter() {
        RuleMill mill = new RuleMill();
        Bench.program(mill, "  " + ALL.replace(";", " ; ").replace(" ", "  "));
        BENCH.due("text", Bench.text(mill, 0), ALL);
        BENCH.due("end", mill.letter(0, ALL.length()), 0);
        BENCH.due("behind the end", mill.letter(0, ALL.length() + 1), RuleMill.BAD);
        BENCH.due("far behind", mill.letter(0, Integer.MAX_VALUE), RuleMill.BAD);
        BENCH.due("letter(0, -1)", mill.letter(0, -1), RuleMill.BAD);
        BENCH.due("letter(1, 0)", mill.letter(1, 0), RuleMill.BAD);
        Bench.program(mill, " ");
        BENCH.due("letter(1, 0)", mill.letter(1, 0), 0);
        BENCH.due("letter(1, 1)", mill.letter(1, 1), RuleMill.BAD);
    }

    private static void joined() {
        RuleMill mill = new RuleMill();
        Bench.program(mill, Bench.times("inc a", 11));
        Bench.program(mill, "nop;set a 2");
        BENCH.due("joined(1, 1)", mill.joined(1, 1), 2);
        BENCH.due("text", Bench.text(mill, 2), "nop;set a 2;nop;set a 2");
        BENCH.due("joined(0, 1)", mill.joined(0, 1), 3);
        BENCH.due("text", Bench.text(mill, 3), Bench.times("inc a", 11) + ";nop;set a 2");
        BENCH.due("joined(0, 3)", mill.joined(0, 3), 4);
        BENCH.due("size", mill.size(4, 0), 24);
        BENCH.due("joined(3, 3)", mill.joined(3, 3), RuleMill.FULL);
        BENCH.due("joined(0, 5)", mill.joined(0, 5), RuleMill.BAD);
        BENCH.due("joined(-1, 0)", mill.joined(-1, 0), RuleMill.BAD);
        for (int k = 5; k < 16; k++) {
            BENCH.due("joined(1, 1)", mill.joined(1, 1), k);
        }
        BENCH.due("joined(1, 1)", mill.joined(1, 1), RuleMill.FULL);
        BENCH.due("joined(1, 16)", mill.joined(1, 16), RuleMill.BAD);
        BENCH.due("count(2)", mill.count(2), 16);
    }

    private static void part() {
        RuleMill mill = new RuleMill();
        Bench.program(mill, "inc a;inc b;inc c");
        BENCH.due("part(0, 1, 3)", mill.part(0, 1, 3), 1);
        BENCH.due("text", Bench.text(mill, 1), "inc b;inc c");
        BENCH.due("part(0, 0, 3)", mill.part(0, 0, 3), 2);
        BENCH.due("text", Bench.text(mill, 2), "inc a;inc b;inc c");
        BENCH.due("part(0, 3, 3)", mill.part(0, 3, 3), 3);
        BENCH.due("size", mill.size(3, 0), 0);
        BENCH.due("part(0, 2, 1)", mill.part(0, 2, 1), RuleMill.BAD);
        BENCH.due("part(0, -1, 1)", mill.part(0, -1, 1), RuleMill.BAD);
        BENCH.due("part(0, 0, 4)", mill.part(0, 0, 4), RuleMill.BAD);
        BENCH.due("part(4, 0, 0)", mill.part(4, 0, 0), RuleMill.BAD);
        for (int k = 4; k < 16; k++) {
            mill.part(0, 0, 1);
        }
        BENCH.due("part(0, 0, 1)", mill.part(0, 0, 1), RuleMill.FULL);
        BENCH.due("part(0, 0, 4)", mill.part(0, 0, 4), RuleMill.BAD);
    }

    private static void count() {
        RuleMill mill = new RuleMill();
        Bench.rule(mill, "nop=>");
        Bench.rule(mill, "inc p=>");
        Bench.rule(mill, "nop=>nop");
        mill.on(0, false);
        BENCH.due("count(0)", mill.count(0), 3);
        BENCH.due("count(1)", mill.count(1), 1);
        mill.on(0, true);
        Bench.program(mill, "nop;nop");
        BENCH.due("count(2)", mill.count(2), 1);
        Bench.lay(mill, "12345");
        BENCH.due("count(3)", mill.count(3), 5);
        BENCH.due("count(4)", mill.count(4), 2);
        mill.mill(0);
        mill.mill(7);
        BENCH.due("count(5)", mill.count(5), 2);
        BENCH.due("count(6)", mill.count(6), RuleMill.BAD);
        BENCH.due("count(-1)", mill.count(-1), RuleMill.BAD);
    }

    private static void drop() {
        RuleMill mill = new RuleMill();
        Bench.program(mill, "inc a");
        Bench.program(mill, "inc b;inc c");
        BENCH.due("drop()", mill.drop(), 1);
        BENCH.due("size(1, 0)", mill.size(1, 0), RuleMill.BAD);
        Bench.program(mill, "dec a");
        BENCH.due("text", Bench.text(mill, 1), "dec a");
        BENCH.due("drop()", mill.drop(), 1);
        BENCH.due("drop()", mill.drop(), 0);
        BENCH.due("drop()", mill.drop(), RuleMill.NONE);
    }
}
