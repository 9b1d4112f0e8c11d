import java.nio.charset.StandardCharsets;
import java.util.Arrays;

/** What the tests share: towns told by a text, and answers held against what is due. */
final class Check {
    /** The town of most tests: rex counts right in the inn, pip is wrong in the barn. */
    static final String ROW = "house inn;house mill;house barn;"
            + "person al inn 0 5;person bo inn 1 3;person cy mill 0 4;"
            + "coat barn 2 6;dish inn 2;dog rex inn 3;dog pip barn 4;wind 50;tax 3;";

    private static int asked;
    private static int wrong;

    private Check() {
    }

    static void same(String call, long got, long due) {
        asked++;
        if (got != due) {
            wrong++;
            System.out.println(call + " answered " + got + ", due is " + due);
        }
    }

    static void yes(String call, boolean got) {
        same(call, got ? 1 : 0, 1);
    }

    static void no(String call, boolean got) {
        same(call, got ? 1 : 0, 0);
    }

    /** Feeds a text, filled up with blanks to twenties, and tells how long it is without them. */
    static int fed(NoseCensus x, String text) {
        byte[] bytes = text.getBytes(StandardCharsets.ISO_8859_1);
        int whole = (bytes.length + 19) / 20 * 20;
        byte[] filled = Arrays.copyOf(bytes, whole);
        Arrays.fill(filled, bytes.length, whole, (byte) ' ');
        for (int i = 0; i < whole; i += 20) {
            x.feed(four(filled, i), four(filled, i + 4), four(filled, i + 8), four(filled, i + 12),
                    four(filled, i + 16));
        }
        return bytes.length;
    }

    private static int four(byte[] bytes, int at) {
        return (bytes[at] & 255) << 24 | (bytes[at + 1] & 255) << 16 | (bytes[at + 2] & 255) << 8
                | bytes[at + 3] & 255;
    }

    static int told(NoseCensus x, String text) {
        return x.text(fed(x, text));
    }

    static NoseCensus town(String text) {
        NoseCensus x = new NoseCensus();
        int lines = told(x, text);
        same("text of " + text, lines, text.chars().filter(sign -> sign == ';').count());
        return x;
    }

    /** A new town of a text that has a fault. */
    static void faulty(String text, int fault, int place) {
        NoseCensus x = new NoseCensus();
        String call = "text of " + text.replace("\n", "\\n");
        same(call, told(x, text), NoseCensus.NONE);
        same(call + ": fault(0)", x.fault(0), fault);
        same(call + ": fault(1)", x.fault(1), place);
    }

    /** A new town of a text that has none. */
    static NoseCensus fine(String text) {
        NoseCensus x = town(text);
        same("fault(0) of " + text, x.fault(0), 0);
        same("fault(1) of " + text, x.fault(1), NoseCensus.NONE);
        return x;
    }

    static int letters(String name) {
        int bits = 0;
        for (int i = 0; i < 6; i++) {
            bits = bits * 32 + (i < name.length() ? name.charAt(i) - 'a' + 1 : 0);
        }
        return bits;
    }

    static void end() {
        System.out.println(asked + " answers, " + wrong + " wrong");
        if (wrong != 0 || asked == 0) {
            System.exit(1);
        }
    }
}
