/** The words, the orders and the numbers of the terms: all words of all widths, all numbers, all sums. */
public final class WordsTest {
    private static final Bench BENCH = new Bench("WordsTest");
    private static final String[] NAMES = {"set", "mov", "add", "sub", "and", "or", "xor", "mul", "inc", "dec", "not", "neg",
        "shl", "shr", "sel", "get", "put", "nop", "swp"};

    public static void main(String[] args) {
        for (int w = 1; w <= 3; w++) {
            ordersOfTwo(w);
            ordersOfOne(w);
            moves(w);
            choices(w);
            cells(w);
            numbersAsKept(w);
        }
        sums();
        BENCH.close();
    }

    /** What two words make, in numbers that can not overflow, before they are taken modulo 2^W. */
    private static long worked(String name, long x, long y, int w) {
        switch (name) {
            case "mov":
                return y;
            case "add":
                return x + y;
            case "sub":
                return x - y;
            case "mul":
                return x * y;
            case "inc":
                return x + 1;
            case "dec":
                return x - 1;
            case "not":
                return (1L << w) - 1 - x;
            case "neg":
                return -x;
            default:
                return bitByBit(name, x, y, w);
        }
    }

    private static long bitByBit(String name, long x, long y, int w) {
        long all = 0;
        for (int bit = 0; bit < w; bit++) {
            long one = x / (1 << bit) % 2;
            long other = y / (1 << bit) % 2;
            long both = name.equals("and") ? one * other : name.equals("or") ? Math.max(one, other) : (one + other) % 2;
            all += both * (1 << bit);
        }
        return all;
    }

    private static int word(long n, int w) {
        return (int) Math.floorMod(n, 1L << w);
    }

    /** Words a, b, c, d, then the cells 0 to 3, a the lowest. */
    private static int bits(int w, int... words) {
        int bits = 0;
        for (int k = words.length - 1; k >= 0; k--) {
            bits = bits * (1 << w) + words[k];
        }
        return bits;
    }

    private static RuleMill with(int w, String program) {
        RuleMill mill = Bench.withWidth(w);
        BENCH.due("program '" + program + "'", Bench.program(mill, program), 0);
        return mill;
    }

    private static void ordersOfTwo(int w) {
        for (String name : new String[] {"mov", "add", "sub", "and", "or", "xor", "mul"}) {
            RuleMill two = with(w, name + " b d");
            RuleMill one = with(w, name + " c c");
            for (int x = 0; x < 1 << w; x++) {
                for (int y = 0; y < 1 << w; y++) {
                    int due = bits(w, x, word(worked(name, x, y, w), w), 1, y, 0, 1, 1, x);
                    BENCH.due(name + " " + x + " " + y + ", W " + w, two.run(0, bits(w, x, x, 1, y, 0, 1, 1, x)), due);
                }
                int due = bits(w, 0, 1, word(worked(name, x, x, w), w), 1);
                BENCH.due(name + " " + x + " with itself, W " + w, one.run(0, bits(w, 0, 1, x, 1)), due);
            }
        }
    }

    private static void ordersOfOne(int w) {
        for (String name : new String[] {"inc", "dec", "not", "neg"}) {
            RuleMill mill = with(w, name + " d");
            for (int x = 0; x < 1 << w; x++) {
                int due = bits(w, 1, 0, 1, word(worked(name, x, 0, w), w), 1);
                BENCH.due(name + " " + x + ", W " + w, mill.run(0, bits(w, 1, 0, 1, x, 1)), due);
            }
        }
    }

    /** Moved by more than there are bits, nothing is left; what goes over the edge does not come back. */
    private static void moves(int w) {
        for (int n = 0; n <= 15; n++) {
            RuleMill up = with(w, "shl a " + n);
            RuleMill down = with(w, "shr a " + n);
            for (int x = 0; x < 1 << w; x++) {
                int rest = (1 << w * 8) - (1 << w);
                BENCH.due("shl " + x + " by " + n + ", W " + w, up.run(0, rest + x), rest + word((long) x << n, w));
                BENCH.due("shr " + x + " by " + n + ", W " + w, down.run(0, rest + x), rest + (x >> n));
            }
        }
    }

    private static void choices(int w) {
        RuleMill three = with(w, "sel a b c");
        RuleMill then = with(w, "sel a a c");
        RuleMill otherwise = with(w, "sel a b a");
        RuleMill places = with(w, "swp a d");
        RuleMill itself = with(w, "swp a a");
        for (int x = 0; x < 1 << w; x++) {
            for (int y = 0; y < 1 << w; y++) {
                int z = (1 << w) - 1 - y;
                int before = bits(w, x, y, z, y);
                BENCH.due("sel " + x + ", W " + w, three.run(0, before), bits(w, x != 0 ? y : z, y, z, y));
                BENCH.due("sel a a c, a " + x + ", W " + w, then.run(0, before), bits(w, x != 0 ? x : z, y, z, y));
                BENCH.due("sel a b a, a " + x + ", W " + w, otherwise.run(0, before), bits(w, x != 0 ? y : 0, y, z, y));
                BENCH.due("swp a d, W " + w, places.run(0, before), bits(w, y, y, z, x));
                BENCH.due("swp a a, W " + w, itself.run(0, before), before);
            }
        }
    }

    private static void cells(int w) {
        int top = (1 << w) - 1;
        int[] before = {top, 0, 0, 0, 0, 1, top, top - 1};
        for (int cell = 0; cell < 4; cell++) {
            int[] got = before.clone();
            got[1] = before[4 + cell];
            BENCH.due("get b " + cell + ", W " + w, with(w, "get b " + cell).run(0, bits(w, before)), bits(w, got));
            int[] put = before.clone();
            put[4 + cell] = top;
            BENCH.due("put a " + cell + ", W " + w, with(w, "put a " + cell).run(0, bits(w, before)), bits(w, put));
        }
        BENCH.due("nop, W " + w, with(w, "nop").run(0, bits(w, before)), bits(w, before));
    }

    /** Set modulo 2^W, get and put modulo 4, shl and shr modulo 16, and W if more than W. */
    private static int kept(String name, int n, int w) {
        if (name.equals("set")) {
            return word(n, w);
        }
        return name.equals("get") || name.equals("put") ? Math.floorMod(n, 4) : Math.min(Math.floorMod(n, 16), w);
    }

    private static void numbersAsKept(int w) {
        for (String name : new String[] {"set", "get", "put", "shl", "shr"}) {
            for (int n = 0; n <= 15; n++) {
                RuleMill mill = with(w, name + " c " + n);
                BENCH.due("which: " + name, NAMES[Math.max(0, mill.order(0, 0, 0))], name);
                BENCH.due(name + " c " + n + ", W " + w, mill.order(0, 0, 2), kept(name, n, w));
                BENCH.due("text of " + name + " c " + n, Bench.text(mill, 0), name + " c " + kept(name, n, w));
                BENCH.due("a number with a 0 in front", with(w, name + " c " + (n < 10 ? "0" : "") + n).order(0, 0, 2), kept(name, n, w));
            }
        }
    }

    private static int sum(int n, char sign, int m) {
        switch (sign) {
            case '+':
                return n + m;
            case '-':
                return n - m;
            default:
                return (int) bitByBit(sign == '&' ? "and" : sign == '|' ? "or" : "xor", n, m, 4);
        }
    }

    /** Sums are worked as ints, then kept: from 0 - 15 to 15 + 15. A rule whose first side says so at once is sound. */
    private static void sums() {
        for (char sign : "+-&|^".toCharArray()) {
            for (int n = 0; n <= 15; n++) {
                for (int m = 0; m <= 15; m++) {
                    for (String name : new String[] {"set", "get", "put", "shl", "shr"}) {
                        for (int w = 1; w <= (name.equals("get") || name.equals("put") ? 2 : 3); w++) {
                            isWorked(name, n, sign, m, w);
                        }
                    }
                }
            }
        }
    }

    private static void isWorked(String name, int n, char sign, int m, int w) {
        RuleMill mill = Bench.withWidth(w);
        String second = name + " p " + n + sign + m;
        int due = kept(name, sum(n, sign, m), w);
        Bench.rule(mill, name + " p " + due + ";nop=>" + second);
        Bench.program(mill, name + " a " + due + ";nop");
        BENCH.due(second + " is " + due + ", W " + w, mill.told(0, 0), 1);
        BENCH.due("changed to " + second, mill.change(0, 0, 0), 1);
        BENCH.due("changed to " + second + ", W " + w, mill.order(0, 0, 2), due);
    }
}
