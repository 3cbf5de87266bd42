import java.nio.charset.StandardCharsets;

/** What all tests here share: texts laid on the tape, answers compared, and an exit code at the end. */
final class Bench {
    private final String name;
    private int checks = 0;
    private int wrong = 0;

    Bench(String name) {
        this.name = name;
    }

    void due(String call, long got, long want) {
        checks++;
        if (got != want) {
            wrong++;
            System.out.println(name + ": " + call + " answered " + got + ", due is " + want);
        }
    }

    void due(String call, String got, String want) {
        checks++;
        if (!got.equals(want)) {
            wrong++;
            System.out.println(name + ": " + call + " answered '" + got + "', due is '" + want + "'");
        }
    }

    /** The text behind what is on the tape, to the byte. */
    static void lay(RuleMill mill, String text) {
        byte[] bytes = text.getBytes(StandardCharsets.ISO_8859_1);
        int before = mill.count(3);
        for (int from = 0; from < bytes.length; from += 20) {
            int[] five = new int[5];
            for (int k = 0; k < 20; k++) {
                int b = from + k < bytes.length ? bytes[from + k] & 255 : 0;
                five[k / 4] |= b << 24 - k % 4 * 8;
            }
            mill.feed(five[0], five[1], five[2], five[3], five[4]);
        }
        mill.end(before + bytes.length);
    }

    static int rule(RuleMill mill, String text) {
        lay(mill, text);
        return mill.rule();
    }

    static int program(RuleMill mill, String text) {
        lay(mill, text);
        return mill.program();
    }

    static String text(RuleMill mill, int p) {
        StringBuilder text = new StringBuilder();
        int letter = mill.letter(p, 0);
        for (int i = 1; i < 400 && letter > 0; i++) {
            text.append((char) letter);
            letter = mill.letter(p, i);
        }
        return text.toString();
    }

    static String times(String order, int n) {
        StringBuilder text = new StringBuilder(order);
        for (int k = 1; k < n; k++) {
            text.append(';').append(order);
        }
        return n == 0 ? "" : text.toString();
    }

    static RuleMill withWidth(int w) {
        RuleMill mill = new RuleMill();
        mill.width(w);
        return mill;
    }

    /** Numbers outside 0 .. count - 1, the nearest and the farthest. */
    static int[] outside(int count) {
        return new int[] {-1, -2, count, count + 1, Integer.MIN_VALUE, Integer.MAX_VALUE, 1 << 16, -(1 << 16), count + (1 << 30)};
    }

    RuleMill withPrograms(String... texts) {
        RuleMill mill = new RuleMill();
        for (int k = 0; k < texts.length; k++) {
            due("program '" + texts[k] + "'", program(mill, texts[k]), k);
        }
        return mill;
    }

    RuleMill withRules(int w, String... texts) {
        RuleMill mill = withWidth(w);
        for (int k = 0; k < texts.length; k++) {
            due("rule '" + texts[k] + "'", rule(mill, texts[k]), k);
        }
        return mill;
    }

    void close() {
        System.out.println(name + ": " + checks + " checks, " + wrong + " wrong");
        if (wrong != 0 || checks == 0) {
            System.exit(1);
        }
    }
}
