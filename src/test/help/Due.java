import java.nio.charset.StandardCharsets;
import java.util.function.IntUnaryOperator;

/** What the tests of the project share: it counts wrong answers and ends the program by them. */
final class Due {
    private static int wrong = 0;
    private static int asked = 0;
    /** What is tested now; it stands ahead of each wrong answer. */
    private static String now = "";

    private Due() {
    }

    static void begin(String what) {
        now = what;
    }

    static int asked() {
        return asked;
    }

    static void is(String call, long got, long want) {
        asked++;
        if (got != want) wrong(call + " answered " + got + ", due is " + want);
    }

    /** A number from least to most is refused on both sides, just beyond and far off, where bytes and shorts wrap, too. */
    static void beyond(String call, IntUnaryOperator of, int least, int most, int refusal) {
        int[] numbers = {
            least - 1, most + 1, Integer.MIN_VALUE, Integer.MAX_VALUE, least - 256, least + 256, most - 65536, most + 65536,
        };
        for (int v : numbers) {
            if (v < least || v > most) is(call + " with " + v, of.applyAsInt(v), refusal);
        }
    }

    static void wrong(String what) {
        wrong++;
        System.out.println(now + what);
    }

    /** Feeds a text by eights, the signs as bytes 0 to 255. */
    static int feed(DeadStick x, String text) {
        byte[] bytes = text.getBytes(StandardCharsets.ISO_8859_1);
        int answer = 0;
        for (int i = 0; i < bytes.length; i += 8) {
            int n = Math.min(8, bytes.length - i);
            long eight = 0;
            for (int k = n - 1; k >= 0; k--) eight = eight << 8 | bytes[i + k] & 255;
            answer = x.feed(eight, n);
        }
        return answer;
    }

    static int read(DeadStick x, String text) {
        feed(x, text);
        return x.read();
    }

    /** A SHEET becomes a row of a sort with these items. */
    static void fill(DeadStick x, int sheet, int sort, int... items) {
        is("sheet", x.sheet(sheet, sort, items.length), 1);
        for (int i = 0; i < items.length; i++) is("put", x.put(sheet, i, items[i]), 1);
    }

    /** GROUND (what 0) or HOUSES (1) of all cells, by SHEET 3. */
    static void lay(DeadStick x, int what, int... cells) {
        fill(x, 3, 0, cells);
        is("lay", x.lay(3, what), 1);
    }

    /** A PLAN of these ACTS, by SHEET 3. */
    static int plan(DeadStick x, int... acts) {
        fill(x, 3, 1, acts);
        return x.plan(3);
    }

    static void end() {
        System.out.println(wrong == 0 ? "all " + asked + " answers are as due" : wrong + " answers are not as due");
        if (wrong != 0) System.exit(1);
    }
}
