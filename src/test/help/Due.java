import java.nio.charset.StandardCharsets;

/** What the tests of the project share: it counts wrong answers and ends the program by them. */
final class Due {
    private static int wrong = 0;

    private Due() {
    }

    static void is(String call, long got, long want) {
        if (got == want) return;
        wrong++;
        System.out.println(call + " answered " + got + ", due is " + want);
    }

    /** Feeds a text by eights, the signs as bytes 0 to 255. */
    static int feed(DeadStick x, String text) {
        byte[] bytes = text.getBytes(StandardCharsets.ISO_8859_1);
        int answer = 0;
        for (int i = 0; i < bytes.length; i += 8) {
            int n = Math.min(8, bytes.length - i);
            long eight = 0;
            for (int k = n - 1; k >= 0; k--) eight = eight << 8 | bytes[i + k] & 255;
            answer = x.feed(eight, n);
        }
        return answer;
    }

    static int read(DeadStick x, String text) {
        feed(x, text);
        return x.read();
    }

    /** A SHEET becomes a row of a sort with these items. */
    static void fill(DeadStick x, int sheet, int sort, int... items) {
        is("sheet", x.sheet(sheet, sort, items.length), 1);
        for (int i = 0; i < items.length; i++) is("put", x.put(sheet, i, items[i]), 1);
    }

    /** A PLAN of these ACTS, by SHEET 3. */
    static int plan(DeadStick x, int... acts) {
        fill(x, 3, 1, acts);
        return x.plan(3);
    }

    static void end() {
        System.out.println(wrong == 0 ? "all answers are as due" : wrong + " answers are not as due");
        if (wrong != 0) System.exit(1);
    }
}
