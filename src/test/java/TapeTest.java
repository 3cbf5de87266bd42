/** Promises 1 to 4. */
public final class TapeTest {
    public static void main(String[] args) {
        Bench bench = new Bench("TapeTest");
        newObject(bench);
        width(bench);
        feed(bench);
        end(bench);
        bench.close();
    }

    private static void newObject(Bench bench) {
        RuleMill mill = new RuleMill();
        int[] due = {0, 0, 0, 0, 2, 0};
        for (int what = 0; what < due.length; what++) {
            bench.due("new count(" + what + ")", mill.count(what), due[what]);
        }
        bench.due("new fault()", mill.fault(), 0);
        bench.due("new differs()", mill.differs(), RuleMill.NONE);
        bench.due("new drop()", mill.drop(), RuleMill.NONE);
        bench.due("new step(0, 0)", mill.step(0, 0), RuleMill.BAD);
        bench.due("new told(0, 0)", mill.told(0, 0), RuleMill.BAD);
        bench.due("new size(0, 0)", mill.size(0, 0), RuleMill.BAD);
        bench.due("new end(0)", mill.end(0), 0);
    }

    private static void width(Bench bench) {
        RuleMill mill = new RuleMill();
        bench.due("width(3)", mill.width(3), 2);
        bench.due("width(1)", mill.width(1), 3);
        bench.due("width(0)", mill.width(0), RuleMill.BAD);
        bench.due("width(4)", mill.width(4), RuleMill.BAD);
        bench.due("width(-1)", mill.width(-1), RuleMill.BAD);
        bench.due("count(4)", mill.count(4), 1);
        Bench.lay(mill, "nop");
        bench.due("width(2) with a tape", mill.width(2), 1);
        mill.program();
        bench.due("width(1) with a program", mill.width(1), RuleMill.STATE);
        bench.due("width(0) with a program", mill.width(0), RuleMill.BAD);
        mill.drop();
        bench.due("width(3) behind the drop", mill.width(3), 2);
        Bench.rule(mill, "nop=>");
        bench.due("width(3) with a rule", mill.width(3), RuleMill.STATE);
        bench.due("count(4)", mill.count(4), 3);
    }

    private static void feed(Bench bench) {
        RuleMill mill = new RuleMill();
        bench.due("feed", mill.feed(0x73657420, 0x61203120, 0x3b206e6f, 0x74206220, 0x20202020), 20);
        bench.due("program()", mill.program(), 0);
        bench.due("text", Bench.text(mill, 0), "set a 1;not b");
        for (int k = 1; k <= 20; k++) {
            bench.due("feed " + k, mill.feed(-1, Integer.MIN_VALUE, 0, 1, Integer.MAX_VALUE), 20 * k);
        }
        bench.due("feed 21", mill.feed(0, 0, 0, 0, 0), RuleMill.FULL);
        bench.due("count(3)", mill.count(3), 400);
        mill.end(381);
        bench.due("feed on 381", mill.feed(0, 0, 0, 0, 0), RuleMill.FULL);
        bench.due("count(3)", mill.count(3), 381);
        mill.end(380);
        bench.due("feed on 380", mill.feed(0, 0, 0, 0, 0), 400);
    }

    private static void end(Bench bench) {
        RuleMill mill = new RuleMill();
        mill.feed(0x6e6f7020, 0x78000000, 0, 0, 0);
        bench.due("end(21)", mill.end(21), RuleMill.BAD);
        bench.due("end(-1)", mill.end(-1), RuleMill.BAD);
        bench.due("end(20)", mill.end(20), 20);
        bench.due("end(4)", mill.end(4), 20);
        bench.due("end(5)", mill.end(5), RuleMill.BAD);
        bench.due("count(3)", mill.count(3), 4);
        bench.due("program()", mill.program(), 0);
        bench.due("text", Bench.text(mill, 0), "nop");
    }
}
