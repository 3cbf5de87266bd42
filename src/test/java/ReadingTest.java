/** Promises 5 to 7: rules and programs read, and their faults. */
public final class ReadingTest {
    private static final Bench BENCH = new Bench("ReadingTest");

    public static void main(String[] args) {
        programs();
        programFaults();
        rules();
        ruleFaults();
        limits();
        assignments();
        full();
        again();
        behindTheEnd();
        BENCH.close();
    }

    private static void reads(String text, String due) {
        RuleMill mill = new RuleMill();
        BENCH.due("program '" + text + "'", Bench.program(mill, text), 0);
        BENCH.due("fault of '" + text + "'", mill.fault(), 0);
        BENCH.due("text of '" + text + "'", Bench.text(mill, 0), due);
        BENCH.due("tape behind '" + text + "'", mill.count(3), 0);
    }

    private static void programs() {
        reads("", "");
        reads("   ", "");
        reads("nop", "nop");
        reads("  or   a    d  ", "or a d");
        reads("set a 3;mov b c;add c d;sub d a;and a a;or b a", "set a 3;mov b c;add c d;sub d a;and a a;or b a");
        reads("xor a b ; mul a c;inc d;dec a;not b;neg c", "xor a b;mul a c;inc d;dec a;not b;neg c");
        reads("shl a 1;shr b 2;sel a b c;get a 0;put d 3;nop;swp c d", "shl a 1;shr b 2;sel a b c;get a 0;put d 3;nop;swp c d");
        reads("set a 15;set a 04;get a 6;put b 15;shl c 15;shr c 3", "set a 3;set a 0;get a 2;put b 3;shl c 2;shr c 2");
        reads(Bench.times("sel a b c", 24), Bench.times("sel a b c", 24));
    }

    private static void faulty(boolean isRule, int w, String text, int fault, int place) {
        RuleMill mill = Bench.withWidth(w);
        int got = isRule ? Bench.rule(mill, text) : Bench.program(mill, text);
        BENCH.due("place in '" + text + "'", got, -10 - place);
        BENCH.due("fault of '" + text + "'", mill.fault(), fault);
        BENCH.due("tape behind '" + text + "'", mill.count(3), 0);
        BENCH.due("count behind '" + text + "'", mill.count(isRule ? 0 : 2), 0);
    }

    private static void program(String text, int fault, int place) {
        faulty(false, 2, text, fault, place);
    }

    private static void programFaults() {
        program("mova b", 1, 0);
        program("mo", 1, 0);
        program("movz a b", 1, 0);
        program("movA a b", 1, 0);
        program("mov aZ b", 1, 4);
        program("set1 2", 1, 3);
        program("mov ab c", 1, 4);
        program("mov a1 c", 1, 5);
        program("mov a", 1, 5);
        program("mov a  ", 1, 7);
        program("mov a;nop", 1, 5);
        program("mov a 1", 1, 6);
        program("mov a 123", 1, 6);
        program("mov p a", 1, 4);
        program("mov a e", 1, 6);
        program("set a i", 1, 6);
        program("set a 123", 2, 6);
        program("set a 001", 2, 6);
        program("set a 16x", 2, 6);
        program("set a 12x", 1, 8);
        program("set a 1+1", 1, 7);
        program("set a 1 2", 1, 8);
        program("set a -1", 1, 6);
        program("inc a b", 1, 6);
        program("nop a", 1, 4);
        program(";nop", 1, 0);
        program("nop;", 1, 4);
        program("nop; ", 1, 5);
        program("nop;;nop", 1, 4);
        program("nop nop", 1, 4);
        program("nop=>nop", 1, 3);
        program("12", 1, 0);
        program("nop\t", 1, 3);
        program(" \0", 1, 1);
        program("nop;\u00ff", 1, 4);
        program("NOP", 1, 0);
        program("or", 1, 2);
        program("orr a b", 1, 0);
    }

    private static void rules() {
        RuleMill mill = new RuleMill();
        String[] texts = {"nop=>", "nop => ", " nop;nop ;nop; nop=> nop;nop;nop ; nop ", "set q i;set p j=>set p j;set q i",
            "set p i=>set p i+1", "set p 15=>set p 15^15", "sel s r q=>nop", "shl p k=>shl p k&k", "set p i=>set p 3|i", "set p i=>set p 9-i"};
        for (int k = 0; k < texts.length; k++) {
            BENCH.due("rule '" + texts[k] + "'", Bench.rule(mill, texts[k]), k);
            BENCH.due("fault of '" + texts[k] + "'", mill.fault(), 0);
            BENCH.due("tape behind '" + texts[k] + "'", mill.count(3), 0);
            BENCH.due("on '" + texts[k] + "'", mill.told(k, 9), 1);
        }
    }

    private static void rule(String text, int fault, int place) {
        faulty(true, 2, text, fault, place);
    }

    private static void ruleFaults() {
        rule("", 1, 0);
        rule("    ", 1, 4);
        rule("=>nop", 1, 0);
        rule("nop", 1, 3);
        rule("nop ", 1, 4);
        rule("nop=", 1, 3);
        rule("nop= >", 1, 3);
        rule("nop>", 1, 3);
        rule("nop=>;", 1, 5);
        rule("nop;=>", 1, 4);
        rule("nop=>nop;", 1, 9);
        rule("nop=>nop=>", 1, 8);
        rule("nop=>=>", 1, 5);
        rule("inc a=>", 1, 4);
        rule("inc t=>", 1, 4);
        rule("inc pq=>", 1, 4);
        rule("set p p=>", 1, 6);
        rule("set p l=>", 1, 6);
        rule("set p ij=>", 1, 6);
        rule("set p i+1=>", 1, 7);
        rule("set p 1i=>", 1, 7);
        rule("set p i=>set p i +1", 1, 17);
        rule("set p i=>set p i+ 1", 1, 17);
        rule("set p i=>set p i+", 1, 17);
        rule("set p i=>set p i+1+1", 1, 18);
        rule("set p i=>set p i*2", 1, 16);
        rule("set p i=>set p +2", 1, 15);
        rule("set p i=>set p i+ii", 1, 17);
        rule("set p i=>set p i+p", 1, 17);
        rule("set p i=>set p i+16", 2, 17);
        rule("set p i=>set p 100+i", 2, 15);
        rule("set p 16=>", 2, 6);
        rule("set p i=>set p j", 3, 15);
        rule("set p i=>set p i+j", 3, 17);
        rule("set p i=>set p j+99", 3, 15);
        rule("set p i=>set q i", 3, 13);
        rule("set p i=>set qq i", 1, 13);
        rule("inc p=>set p i", 3, 13);
    }

    private static void limits() {
        program(Bench.times("nop", 25), 4, 96);
        program(Bench.times("nop", 24) + "; nope", 1, 97);
        program(Bench.times("nop", 24) + "; set", 4, 97);
        program(Bench.times("nop", 24) + ";", 1, 96);
        rule(Bench.times("nop", 5) + "=>", 4, 16);
        rule("nop=>" + Bench.times("nop", 5), 4, 21);
        rule("nop=>" + Bench.times("nop", 4) + "; ", 1, 22);
        rule("nop=>" + Bench.times("nop", 4) + ";a", 1, 21);
    }

    private static void assignments() {
        faulty(true, 3, "sel p q r;get s 0=>", 5, 0);
        faulty(true, 3, "get p i=>", 5, 0);
        faulty(true, 3, "sel p q r;mov q s;set p i;set p j=>", 5, 0);
        faulty(true, 2, "sel p q r;mov q s;get p i=>", 5, 0);
        faulty(true, 3, " sel p q r;mov q s;set p i;get p j=>set q k", 3, 42);
        RuleMill mill = Bench.withWidth(3);
        BENCH.due("32768 assignments", Bench.rule(mill, "get p 1=>get p 1"), 0);
        BENCH.due("32768 assignments, cells on the second side", Bench.rule(mill, "nop;inc p=>put p 1"), 1);
        BENCH.due("told(1, 2)", mill.told(1, 2), 32768);
        mill = new RuleMill();
        BENCH.due("65536 assignments", Bench.rule(mill, "sel p q r;get s 0=>"), 0);
        BENCH.due("told(0, 2)", mill.told(0, 2), 65536);
    }

    /** What a text with a fault left behind is not part of the next one. */
    private static void again() {
        RuleMill mill = new RuleMill();
        BENCH.due("a rule with a fault", Bench.rule(mill, "set p i;get q j;nop=>inc q;inc r"), -10 - 31);
        BENCH.due("too many assignments", Bench.rule(mill, "sel p q r;get s i=>"), -10);
        BENCH.due("fault()", mill.fault(), 5);
        BENCH.due("a rule", Bench.rule(mill, "inc p;dec p=>"), 0);
        int[] due = {1, 2, 4, 4, 2, 0, 1, 0, 0, 1};
        for (int what = 0; what < due.length; what++) {
            BENCH.due("told(0, " + what + ")", mill.told(0, what), due[what]);
        }
        BENCH.due("a program with a fault", Bench.program(mill, "nop;nop;x"), -10 - 8);
        BENCH.due("a program", Bench.program(mill, "inc a"), 0);
        BENCH.due("its text", Bench.text(mill, 0), "inc a");
    }

    /** Bytes that end() took away are not read. */
    private static void behindTheEnd() {
        String[] texts = {"set a 12", "set a 1", "inc ab", "inc a", "nopx", "nop"};
        for (int k = 0; k < texts.length; k += 2) {
            RuleMill mill = new RuleMill();
            Bench.lay(mill, texts[k]);
            mill.end(texts[k + 1].length());
            BENCH.due("'" + texts[k] + "' cut", mill.program(), 0);
            BENCH.due("text", Bench.text(mill, 0), texts[k + 1]);
        }
        RuleMill mill = new RuleMill();
        Bench.lay(mill, "nop=>");
        mill.end(4);
        BENCH.due("'nop=>' cut", mill.rule(), -10 - 3);
    }

    private static void full() {
        RuleMill mill = new RuleMill();
        for (int k = 0; k < 24; k++) {
            BENCH.due("rule " + k, Bench.rule(mill, "nop=>"), k);
        }
        Bench.program(mill, "xyz");
        Bench.lay(mill, "nop=>");
        BENCH.due("rule 24", mill.rule(), RuleMill.FULL);
        BENCH.due("tape", mill.count(3), 5);
        BENCH.due("fault behind FULL", mill.fault(), 1);
        mill.end(3);
        BENCH.due("program 0", mill.program(), 0);
        BENCH.due("fault()", mill.fault(), 0);
        for (int k = 1; k < 16; k++) {
            BENCH.due("program " + k, Bench.program(mill, ""), k);
        }
        Bench.lay(mill, "nap");
        BENCH.due("program 16", mill.program(), RuleMill.FULL);
        BENCH.due("tape", mill.count(3), 3);
        BENCH.due("fault behind FULL", mill.fault(), 0);
        mill.drop();
        BENCH.due("program behind the drop", mill.program(), -10);
        BENCH.due("fault()", mill.fault(), 1);
    }
}
