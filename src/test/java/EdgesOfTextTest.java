/** The edges that the terms name for texts: where a thing may stand, how many, how long, and which fault is told. */
public final class EdgesOfTextTest {
    private static final Bench BENCH = new Bench("EdgesOfTextTest");
    private static final String[] ORDERS = {"set x n", "mov x x", "add x x", "sub x x", "and x x", "or x x", "xor x x", "mul x x",
        "inc x", "dec x", "not x", "neg x", "shl x n", "shr x n", "sel x x x", "get x n", "put x n", "nop", "swp x x"};

    public static void main(String[] args) {
        blanks();
        blanksWithin();
        otherBytes();
        registersOfPrograms();
        registersOfRules();
        marks();
        numbers();
        tooLittle();
        tooMuch();
        words();
        sumsWhereTheyStand();
        notInFirstSide();
        ordersInPrograms();
        ordersInSides();
        assignments();
        firstMetIsTold();
        theWholeTape();
        BENCH.close();
    }

    private static void takes(boolean isRule, int w, String text) {
        RuleMill mill = Bench.withWidth(w);
        BENCH.due((isRule ? "rule '" : "program '") + text + "'", isRule ? Bench.rule(mill, text) : Bench.program(mill, text), 0);
        BENCH.due("fault of '" + text + "'", mill.fault(), 0);
        BENCH.due("there behind '" + text + "'", mill.count(isRule ? 0 : 2), 1);
        BENCH.due("tape behind '" + text + "'", mill.count(3), 0);
    }

    private static void faults(boolean isRule, int w, String text, int fault, int place) {
        RuleMill mill = Bench.withWidth(w);
        BENCH.due((isRule ? "rule '" : "program '") + text + "'", isRule ? Bench.rule(mill, text) : Bench.program(mill, text), -10 - place);
        BENCH.due("fault of '" + text + "'", mill.fault(), fault);
        BENCH.due("there behind '" + text + "'", mill.count(isRule ? 0 : 2), 0);
        BENCH.due("tape behind '" + text + "'", mill.count(3), 0);
    }

    private static void rule(String text) {
        takes(true, 2, text);
    }

    private static void rule(String text, int fault, int place) {
        faults(true, 2, text, fault, place);
    }

    private static void program(String text) {
        takes(false, 2, text);
    }

    private static void program(String text, int fault, int place) {
        faults(false, 2, text, fault, place);
    }

    /** Blanks: one or more between, any at the beginning, the end, around ; and =>. */
    private static void blanks() {
        for (int n = 0; n <= 3; n++) {
            String some = " ".repeat(n);
            program(some);
            program(some + "nop");
            program("nop" + some);
            program("nop" + some + ";nop");
            program("nop;" + some + "nop");
            program("set" + " " + some + "a" + " " + some + "1");
            rule(some + "nop=>");
            rule("nop" + some + "=>");
            rule("nop=>" + some);
            rule("nop=>" + some + "nop");
            rule("nop=>nop" + some);
            rule("nop" + some + ";" + some + "nop=>nop" + some + ";" + some + "nop");
        }
    }

    /** Not within what is one of those. */
    private static void blanksWithin() {
        program("no p", 1, 0);
        program("n op", 1, 0);
        program("set a 1 5", 1, 8);
        rule("nop= >", 1, 3);
        rule("nop=  >nop", 1, 3);
        rule("set p i=>set p 1 5", 1, 17);
        rule("set p i=>set p 1 +5", 1, 17);
        rule("set p i=>set p 1+ 5", 1, 17);
    }

    /** A blank is the byte 32 and no other; what is no byte of a text can stand nowhere. */
    private static void otherBytes() {
        for (int b = 0; b <= 255; b++) {
            char c = (char) b;
            boolean isLetter = c >= 'a' && c <= 'z' || c >= 'A' && c <= 'Z';
            if (c != ' ' && c != ';' && !isLetter) {
                program("nop" + c + "nop", 1, 3);
                program(c + "nop", 1, 0);
                program("nop;" + c, 1, 4);
                program("inc" + c + "a", 1, 3);
                program("inc " + c, 1, 4);
                program("inc a" + c, 1, 5);
            }
            if (c != ' ' && c != ';' && !(c >= '0' && c <= '9')) {
                program("set a 1" + c, 1, 7);
            }
        }
        program("nop ; nop");
        program("nop;nop");
    }

    private static void registersOfPrograms() {
        for (char c = 'a'; c <= 'z'; c++) {
            if (c <= 'd') {
                program("inc " + c);
                program("sel " + c + " " + c + " " + c);
            } else {
                program("inc " + c, 1, 4);
                program("sel a " + c + " b", 1, 6);
                program("sel a b " + c, 1, 8);
            }
            program("set a " + c, 1, 6);
        }
    }

    private static void registersOfRules() {
        for (char c = 'a'; c <= 'z'; c++) {
            if (c >= 'p' && c <= 's') {
                rule("inc " + c + "=>");
                rule("inc " + c + "=>inc " + c);
            } else {
                rule("inc " + c + "=>", 1, 4);
                rule("inc p=>inc " + c, 1, 11);
            }
        }
    }

    /** i, j, k in place of a number, in rules alone. */
    private static void marks() {
        for (char c = 'a'; c <= 'z'; c++) {
            for (String name : new String[] {"set", "shl", "shr", "get", "put"}) {
                if (c >= 'i' && c <= 'k') {
                    rule(name + " p " + c + "=>" + name + " p " + c);
                } else {
                    rule(name + " p " + c + "=>", 1, 6);
                    rule(name + " p i=>" + name + " p " + c, 1, 15);
                    rule(name + " p i=>" + name + " p i+" + c, 1, 17);
                }
                program(name + " a " + c, 1, 6);
            }
        }
        rule("inc i=>", 1, 4);
    }

    /** 1 or 2 figures, 0 to 15. */
    private static void numbers() {
        for (int n = 0; n <= 130; n++) {
            for (String name : new String[] {"set", "shl", "shr", "get", "put"}) {
                if (n <= 15) {
                    program(name + " a " + n);
                    rule(name + " p " + n + "=>" + name + " p " + n);
                    rule(name + " p i=>" + name + " p i-" + n);
                    rule(name + " p i=>" + name + " p " + n + "-i");
                } else {
                    program(name + " a " + n, 2, 6);
                    rule(name + " p " + n + "=>", 2, 6);
                    rule(name + " p i=>" + name + " p " + n, 2, 15);
                    rule(name + " p i=>" + name + " p i-" + n, 2, 17);
                    rule(name + " p i=>" + name + " p " + n + "-i", 2, 15);
                }
            }
        }
        program("set a 00");
        program("set a 000", 2, 6);
        program("set a 0000000000000000000000001", 2, 6);
        program("set a 4294967296", 2, 6);
        program("set a -1", 1, 6);
        program("set a +1", 1, 6);
        program("set a 1000x", 2, 6);
    }

    /** Where something more belongs to an order, its text can not end, and no other thing can stand. */
    private static void tooLittle() {
        for (String order : ORDERS) {
            String[] words = order.split(" ");
            String text = words[0];
            for (int k = 1; k < words.length; k++) {
                program(text, 1, text.length());
                program(text + " ", 1, text.length() + 1);
                program(text + ";nop", 1, text.length());
                program(text + " ;nop", 1, text.length() + 1);
                rule(text.replace(" b", " q") + "=>", 1, text.length());
                text += words[k].equals("n") ? " 1" : " b";
            }
            program(text);
        }
    }

    /** What does not belong to an order any more can not stand behind it. */
    private static void tooMuch() {
        for (String order : ORDERS) {
            String text = order.replace(" x", " c").replace(" n", " 1");
            program(text + " c", 1, text.length() + 1);
            program(text + " 1", 1, text.length() + 1);
            program(text + " 123", 1, text.length() + 1);
            program(text + " nop", 1, text.length() + 1);
            program(text + " ,", 1, text.length() + 1);
        }
    }

    /** Of a word of letters that is no such thing, the first byte. */
    private static void words() {
        for (String order : ORDERS) {
            String name = order.split(" ")[0];
            program(name + "x a b", 1, 0);
            program("y" + name + " a b", 1, 0);
            program(name.equals("xor") ? "ro a b" : name.substring(1) + " a b", 1, 0);
            program(name.substring(0, name.length() - 1) + " a b", 1, 0);
            program("nop;" + name + name, 1, 4);
            program(name.toUpperCase() + " a b", 1, 0);
            rule("nop=>" + name + "s", 1, 5);
        }
        program("inc aa", 1, 4);
        program("inc abcd", 1, 4);
        program("sel a b cd", 1, 8);
        rule("inc pp=>", 1, 4);
        rule("set p ii=>", 1, 6);
        rule("set p i=>set p jj", 1, 15);
        rule("set p i=>set pq j", 1, 13);
    }

    /** A sum stands on the second side alone, of two, with one sign. */
    private static void sumsWhereTheyStand() {
        for (char sign : "+-&|^".toCharArray()) {
            rule("set p i=>set p i" + sign + "i");
            rule("set p i=>set p 15" + sign + "0");
            rule("set p i;set p j=>set p j" + sign + "i");
            rule("set p i" + sign + "1=>", 1, 7);
            rule("set p 1" + sign + "1=>", 1, 7);
            rule("set p i=>set p i" + sign, 1, 17);
            rule("set p i=>set p " + sign + "i", 1, 15);
            rule("set p i=>set p i" + sign + sign + "i", 1, 17);
            rule("set p i=>set p i" + sign + "i" + sign + "i", 1, 18);
            rule("set p i=>inc p" + sign + "i", 1, 14);
            rule("set p i=>mov p p" + sign + "i", 1, 16);
            program("set a 1" + sign + "1", 1, 7);
        }
        for (char other : "*/%!<>=~.,:".toCharArray()) {
            rule("set p i=>set p i" + other + "i", 1, 16);
        }
    }

    /** What stands in the second side stands in the first one; letters that never can are faults of the other kind. */
    private static void notInFirstSide() {
        rule("inc p=>inc q", 3, 11);
        rule("inc s=>inc p", 3, 11);
        rule("sel p q r=>sel p q s", 3, 19);
        rule("set p i=>set p j", 3, 15);
        rule("set p k=>set p i", 3, 15);
        rule("set p 1=>set p k", 3, 15);
        rule("set p i=>set p 1+j", 3, 17);
        rule("set p i=>set p j+i", 3, 15);
        rule("set p i=>nop;nop;nop;set p k", 3, 27);
        rule("sel p q r;set s i;set s j;set s k=>set s i;set r j;set q k;set p i");
    }

    private static void ordersInPrograms() {
        for (int n = 0; n <= 24; n++) {
            program(Bench.times("nop", n));
        }
        for (int n = 25; n <= 27; n++) {
            program(Bench.times("nop", n), 4, 24 * 4);
        }
        program(Bench.times("nop", 24) + ";or", 4, 96);
        program(Bench.times("nop", 24) + " ;  set a 99", 4, 99);
        program(Bench.times("nop", 24) + ";no", 1, 96);
        program(Bench.times("nop", 24) + ";1", 1, 96);
        program(Bench.times("nop", 24) + ";;", 1, 96);
        program(Bench.times("nop", 24) + " x", 1, 96);
        program(Bench.times("nop", 24) + ";", 1, 96);
    }

    /** A first side has 1 to 4, a second one 0 to 4. */
    private static void ordersInSides() {
        rule("", 1, 0);
        rule("=>", 1, 0);
        rule("  =>nop", 1, 2);
        for (int n = 1; n <= 4; n++) {
            rule(Bench.times("nop", n) + "=>");
            rule("nop=>" + Bench.times("nop", n));
            rule(Bench.times("nop", n) + "=>" + Bench.times("nop", n));
        }
        for (int n = 5; n <= 6; n++) {
            rule(Bench.times("nop", n) + "=>", 4, 16);
            rule("nop=>" + Bench.times("nop", n), 4, 21);
        }
        rule(Bench.times("nop", 4) + ";nap=>", 1, 16);
        rule("nop=>" + Bench.times("nop", 4) + ";nap", 1, 21);
        rule(Bench.times("nop", 4) + ";=>", 1, 16);
        rule("nop=>" + Bench.times("nop", 4) + "=>", 1, 20);
        rule("nop", 1, 3);
        rule(Bench.times("nop", 4), 1, 15);
        rule(Bench.times("nop", 4) + "  ", 1, 17);
    }

    private static void has(int w, String text, int assignments) {
        RuleMill mill = Bench.withWidth(w);
        BENCH.due("rule '" + text + "'", Bench.rule(mill, text), 0);
        BENCH.due("assignments of '" + text + "', W " + w, mill.told(0, 2), assignments);
    }

    /** The most that are not above 70,000, and the least that are; no rule of words of one bit has so many. */
    private static void assignments() {
        has(1, "sel p q r;get s i;put s j;get s k=>", 16384);
        has(2, "sel p q r;get s 0=>", 65536);
        has(2, "get p i;get p j;get p k=>", 65536);
        has(3, "sel p q r;shl s i;shr s j=>", 65536);
        has(3, "get p 0=>", 32768);
        faults(true, 2, "shl p i;shl p j;shl q k;get q 0=>", 5, 0);
        faults(true, 2, "mov p q;get p i;get p j;shl p k=>", 5, 0);
        faults(true, 2, "  sel p q r;get s i=>", 5, 0);
        faults(true, 3, "sel p q r;set s i;shr s j=>", 5, 0);
        faults(true, 3, "get p i=>", 5, 0);
        faults(true, 3, "mov p q=>get p 0", 5, 0);
        faults(true, 3, "sel p q r;get s i;put s j;get s k=>", 5, 0);
    }

    private static void firstMetIsTold() {
        program("set a 16;x", 2, 6);
        program("x;set a 16", 1, 0);
        rule("set p 16=>set q j", 2, 6);
        rule("set p i=>set q 16", 3, 13);
        rule("set p i=>set p 16;set q j", 2, 15);
        rule("inc p=>inc q;nop;nop;nop;nop", 3, 11);
        rule("inc p=>nop;nop;nop;nop;inc q", 4, 23);
        faults(true, 3, "get p i=>x", 1, 9);
        faults(true, 3, "get p i=>get q i", 3, 13);
        faults(true, 3, "get p i=>get p 16", 2, 15);
        faults(true, 3, "get p i=>" + Bench.times("nop", 5), 4, 25);
    }

    /** 400 bytes are read like any others, and their end is place 400. */
    private static void theWholeTape() {
        String blank = " ".repeat(400);
        program(blank);
        program("inc a" + blank.substring(5));
        program(blank.substring(5) + "inc a");
        program(blank.substring(1) + "x", 1, 399);
        program(blank.substring(1) + ";", 1, 399);
        program(blank.substring(4) + "nop;", 1, 400);
        program(blank.substring(5) + "mov a", 1, 400);
        rule(blank, 1, 400);
        rule(blank.substring(3) + "nop", 1, 400);
        rule(blank.substring(4) + "nop=", 1, 399);
        rule(blank.substring(5) + "nop=>");
        rule("nop=>" + blank.substring(5));
        rule(blank.substring(14) + "set p 1=>set p", 1, 400);
        rule(blank.substring(16) + "set p 1=>set p i", 3, 399);
        rule(blank.substring(11) + "set p 123=>", 2, 395);
    }
}
