/** Promises 39 to 47: sheets, shelves, asks, the trace, how many. */
public final class HostTest {
    private static final int BAD = -1, NONE = -3;
    private static final int NOTHING = -11, OUTSIDE = -12, KIND = -13, SIZE = -14, PARTED = -15;

    public static void main(String[] args) {
        promise39Sheet();
        promise40Put();
        promise41Item();
        promise42Flies();
        promise43Shelf();
        promise43TheRowIsHeld();
        promise44Taken();
        promises45To46Field();
        promises45To46Road();
        promises45To46WaterHill();
        promises45To46Helped();
        promises45To46Scene();
        promise45Nothing();
        promise45Parted();
        promise47Many();
        Due.end();
    }

    private static void promise39Sheet() {
        DeadStick x = new DeadStick();
        Due.is("sheet", x.sheet(-1, 0, 1), BAD);
        Due.is("sheet", x.sheet(4, 0, 1), BAD);
        Due.is("sheet", x.sheet(0, -2, 1), BAD);
        Due.is("sheet", x.sheet(0, 5, 1), BAD);
        Due.is("sheet", x.sheet(0, 0, 65), BAD);
        Due.is("sheet", x.sheet(0, 5, -1), BAD);
        Due.is("sheet", x.sheet(0, 0, -1), SIZE);
        Due.is("sheet", x.sheet(0, 4, Integer.MIN_VALUE), SIZE);
        Due.is("still missing", x.put(0, 0, 1), NOTHING);
        for (int sort = 0; sort < 5; sort++) {
            Due.is("sheet", x.sheet(sort % 4, sort, 64), 1);
            Due.is("put", x.put(sort % 4, 63, 1), 1);
            Due.is("item", x.item(sort % 4, sort, 63), 1);
            Due.is("all 0", x.item(sort % 4, sort, 62), 0);
            Due.is("anew", x.sheet(sort % 4, sort, 64), 1);
            Due.is("all 0", x.item(sort % 4, sort, 63), 0);
            Due.is("shorter", x.sheet(sort % 4, sort, 3), 1);
            Due.is("outside", x.item(sort % 4, sort, 3), OUTSIDE);
        }
        Due.is("a refused one changes nothing", x.sheet(1, 1, -1), SIZE);
        Due.is("it is there", x.item(1, 1, 2), 0);
        Due.is("missing: n isn't looked at", x.sheet(1, -1, 65), 1);
        Due.is("missing: n isn't looked at", x.sheet(1, -1, -5), 1);
        Due.is("missing", x.item(1, 1, 0), NOTHING);
    }

    private static void promise40Put() {
        DeadStick x = new DeadStick();
        Due.is("put", x.put(-1, 0, 1), BAD);
        Due.is("put", x.put(4, 0, 1), BAD);
        Due.is("put", x.put(0, 0, 1), NOTHING);
        x.sheet(0, 0, 2);
        Due.is("put", x.put(0, -1, 1), OUTSIDE);
        Due.is("put", x.put(0, 2, 1), OUTSIDE);
        int[] puts = {300, -129, 128, 70000, Integer.MIN_VALUE, -1, 256, 65536};
        int[][] items = {
            {44, 127, -128, 112, 0, -1, 0, 0},
            {300, -129, 128, 4464, 0, -1, 256, 0},
            puts,
            puts,
            {1, 1, 1, 1, 1, 1, 1, 1},
        };
        for (int sort = 0; sort < 5; sort++) {
            Due.fill(x, 1, sort, puts);
            for (int i = 0; i < puts.length; i++) Due.is("sort " + sort, x.item(1, sort, i), items[sort][i]);
        }
        Due.fill(x, 1, 4, 0, 2, 0);
        Due.is("false", x.item(1, 4, 0), 0);
        Due.is("true", x.item(1, 4, 1), 1);
        Due.is("put", x.put(1, 1, 0), 1);
        Due.is("false", x.item(1, 4, 1), 0);
    }

    private static void promise41Item() {
        DeadStick x = new DeadStick();
        Due.is("item", x.item(-1, 0, 0), BAD);
        Due.is("item", x.item(4, 0, 0), BAD);
        Due.is("item", x.item(0, -1, 0), BAD);
        Due.is("item", x.item(0, 5, 0), BAD);
        Due.is("missing", x.item(0, 0, 99), NOTHING);
        for (int sort = 0; sort < 5; sort++) {
            x.sheet(0, sort, 1);
            for (int as = 0; as < 5; as++) {
                Due.is("taken as", x.item(0, as, 0), as == sort ? 0 : KIND);
                Due.is("kind ahead of place", x.item(0, as, 1), as == sort ? OUTSIDE : KIND);
                Due.is("below", x.item(0, as, -1), as == sort ? OUTSIDE : KIND);
            }
        }
        Due.fill(x, 0, 2, -13);
        Due.is("as low as a refusal", x.item(0, 2, 0), -13);
    }

    private static void promise42Flies() {
        DeadStick x = new DeadStick();
        Due.is("flies", x.flies(-1, 0, 1), BAD);
        Due.is("flies", x.flies(4, 0, 1), BAD);
        Due.is("flies", x.flies(0, 0, -1), BAD);
        Due.is("flies", x.flies(0, 0, 31), BAD);
        Due.is("missing", x.flies(0, 0, 0), NOTHING);
        x.sheet(0, 3, 1);
        Due.is("longs", x.flies(0, 0, 0), KIND);
        Due.fill(x, 0, 2, 4, 4, 9, 1, 5, -1, 7);
        Due.is("none of none", x.flies(0, 50, 0), 0);
        Due.is("outside", x.flies(0, -1, 2), OUTSIDE);
        Due.is("outside", x.flies(0, 7, 1), OUTSIDE);
        Due.is("outside", x.flies(0, Integer.MAX_VALUE, 30), OUTSIDE);
        Due.is("none was done", x.craftOf(4), 0);
        // two straight; 9 is none, left is off; faster; -1 is none; right by two
        Due.is("four are done", x.flies(0, 0, 7), 4);
        Due.is("tick", x.craftOf(4), 4);
        Due.is("cell", x.craftOf(0), 4 + 16);
        Due.is("height", x.craftOf(3), 60 - 2 - 2 - 5 - 6);
        Due.is("what stood ahead was done", x.flies(0, 6, 3), OUTSIDE);
        Due.is("tick", x.craftOf(4), 5);
        Due.is("cell", x.craftOf(0), 18);
        x.sheet(1, 2, 30);
        Due.is("30 that may not be", x.flies(1, 0, 30), 2);
    }

    private static void promise43Shelf() {
        DeadStick x = new DeadStick();
        x.end(1, 0, 0, 0, 3);
        x.scene(7, 0, 0, 0);
        Due.is("shelf", x.shelf(-1, 0, 0), BAD);
        Due.is("shelf", x.shelf(4, 0, 0), BAD);
        Due.is("shelf", x.shelf(0, -1, 0), BAD);
        Due.is("shelf", x.shelf(0, 4, 0), BAD);
        Due.is("no such end", x.shelf(0, 0, 1), BAD);
        Due.is("no such end", x.shelf(0, 0, -1), BAD);
        Due.is("no such scene", x.shelf(0, 1, 1), BAD);
        Due.is("no such scene", x.shelf(0, 1, -1), BAD);
        Due.is("no such sheet", x.shelf(0, 2, 4), BAD);
        Due.is("no such sheet", x.shelf(0, 2, -1), BAD);
        Due.is("nothing", x.taken(0, 0), NOTHING);
        for (int i = 0; i < 4; i++) Due.is("shelf", x.shelf(i, 0, 0), 1);
        for (int i = 0; i < 4; i++) Due.is("taken", x.taken(i, 0), 0);
        Due.is("a refused one changes nothing", x.shelf(1, 1, 1), BAD);
        Due.is("taken", x.taken(1, 1), 0);
        Due.is("scene", x.shelf(1, 1, 0), 1);
        Due.is("taken", x.taken(1, 6), 0);
        Due.is("a missing row", x.shelf(1, 2, 3), 1);
        Due.is("nothing", x.taken(1, 6), NOTHING);
        Due.is("nothing", x.shelf(2, 3, 0), 1);
        Due.is("nothing", x.taken(2, 0), NOTHING);
    }

    private static void promise43TheRowIsHeld() {
        DeadStick x = new DeadStick();
        x.sheet(0, 3, 5);
        Due.is("shelf", x.shelf(0, 2, 0), 1);
        Due.is("longs", x.taken(0, 13), 5);
        x.sheet(0, 0, 7);
        Due.is("the row is held, not the sheet", x.taken(0, 13), 5);
        x.sheet(0, -1, 0);
        Due.is("the row is held, not the sheet", x.taken(0, 13), 5);
        Due.is("shelf", x.shelf(0, 2, 0), 1);
        Due.is("nothing", x.taken(0, 13), NOTHING);
    }

    private static void promise44Taken() {
        DeadStick x = new DeadStick();
        for (int i = 0; i < 5; i++) x.end(i + 1, 0, 0, 0, 0);
        x.scene(1, 0, 0, 0);
        x.scene(1, 0, 0, 0);
        for (int as : new int[] {-1, 7, 8, 9, 15}) Due.is("as " + as, x.taken(0, as), BAD);
        Due.is("taken", x.taken(-1, 0), BAD);
        Due.is("taken", x.taken(4, 0), BAD);
        int[][] under = {{}, {0, 1}, {0, 1, 2}, {0, 3}, {0, 4}, {0, 1, 2, 5}};
        for (int form = 1; form <= 5; form++) {
            x.shelf(0, 0, form - 1);
            for (int as = 0; as <= 14; as++) {
                if (as > 6 && as < 10) continue;
                int due = KIND;
                for (int u : under[form]) if (u == as) due = form - 1;
                Due.is("form " + form + " as " + as, x.taken(0, as), due);
            }
        }
        x.shelf(1, 1, 1);
        for (int as = 0; as <= 6; as++) Due.is("scene as " + as, x.taken(1, as), as == 6 ? 1 : KIND);
        Due.is("scene as a row", x.taken(1, 10), KIND);
        for (int sort = 0; sort < 5; sort++) {
            x.sheet(2, sort, 11 + sort);
            x.shelf(2, 2, 2);
            for (int as = 10; as < 15; as++) Due.is("row as " + as, x.taken(2, as), as == 10 + sort ? 11 + sort : KIND);
            for (int as = 0; as <= 6; as++) Due.is("row as " + as, x.taken(2, as), KIND);
        }
        for (int as = 10; as < 15; as++) Due.is("nothing", x.taken(3, as), NOTHING);
    }

    private static void asked(DeadStick x, int ask, int with, int due, int... trace) {
        String call = "ask " + ask + " with " + with;
        Due.is(call, x.ask(0, ask, with), due);
        Due.is(call + ": bodies", x.many(10), trace.length);
        for (int i = 0; i < trace.length; i++) Due.is(call + ": trace " + i, x.trace(i), trace[i]);
        Due.is(call + ": no more", x.trace(trace.length), NONE);
        Due.is(call + ": none below", x.trace(-1), NONE);
    }

    /** The n-th END is of a FORM and has a COST; it is put on the first SHELF. */
    private static DeadStick withEnd(int n, int form, int cost) {
        DeadStick x = new DeadStick();
        for (int i = 0; i < n; i++) x.end(3, 0, 0, 0, 1);
        Due.is("end", x.end(form, 0, 0, 0, cost), n);
        Due.is("shelf", x.shelf(0, 0, n), 1);
        return x;
    }

    private static void promises45To46Field() {
        DeadStick x = withEnd(2, 1, 7);
        asked(x, 0, 10, 17, 10);
        asked(x, 1, 10, 31, 20, 11, 10);
        asked(x, 2, 11, 2, 12);
        asked(x, 2, -11, -2, 12);
        asked(x, 3, 10, 31 ^ 2, 13, 20, 11, 10);
        asked(x, 0, Integer.MAX_VALUE, Integer.MIN_VALUE + 6, 10);
        asked(x, 1, Integer.MAX_VALUE, 9, 20, 11, 10);
    }

    private static void promises45To46Road() {
        DeadStick x = withEnd(1, 2, 4);
        asked(x, 0, 3, 35, 30, 10);
        asked(x, 1, 3, 67, 20, 11, 30, 10);
        asked(x, 2, 8, 2, 12);
        // costs 67 by 1 is 66, and 3 by 3
        asked(x, 3, 3, 67, 31, 13, 20, 11, 30, 10, 12);
        // a - n is -1: the least int by -1 wraps
        DeadStick z = withEnd(1, 2, 2);
        // costs (0 + 2) * 5 * 2 - 3 is 17, by 1 is 16, and 3 by 1
        asked(z, 3, 0, 19, 31, 13, 20, 11, 30, 10, 12);
        DeadStick y = withEnd(4, 2, 3);
        asked(y, 2, Integer.MIN_VALUE, Integer.MIN_VALUE, 12);
    }

    private static void promises45To46WaterHill() {
        DeadStick x = withEnd(1, 3, 4);
        asked(x, 0, 3, 7, 10);
        asked(x, 1, 3, -14, 40, 11, 10);
        asked(x, 2, 8, 2, 12);
        asked(x, 3, 3, -14 ^ 1, 13, 40, 11, 10);
        DeadStick y = withEnd(3, 4, 5);
        asked(y, 0, 3, 8, 10);
        asked(y, 1, 3, 16, 11, 10);
        asked(y, 2, 7, 4, 50, 12);
        asked(y, 2, Integer.MAX_VALUE, Integer.MIN_VALUE / 2, 50, 12);
        asked(y, 3, 3, 16 ^ 3, 13, 11, 10);
    }

    private static void promises45To46Helped() {
        DeadStick x = withEnd(2, 5, 6);
        // (3 + 6) * 5 is 45, by 6: 43
        asked(x, 0, 3, 43, 60, 30, 10);
        // 43 * 2 - 3 is 83, and (2 + 6) * 5 without the 6
        asked(x, 1, 3, 123, 61, 20, 11, 60, 30, 10, 30, 10);
        asked(x, 2, 9, 2, 12);
        // 123 by 2 is 121, and 4 by 4
        asked(x, 3, 3, 122, 31, 13, 61, 20, 11, 60, 30, 10, 30, 10, 12);
    }

    private static void promises45To46Scene() {
        DeadStick x = new DeadStick();
        x.scene(1, 0, 0, 0);
        x.scene(9, 0, 0, 0);
        x.shelf(0, 1, 1);
        asked(x, 0, 3, 6, 70);
        asked(x, 1, 3, 7, 71, 70);
        asked(x, 2, 12, 8, 72);
        asked(x, 3, 12, -2 - 8, 73, 71, 70, 72);
        asked(x, 0, Integer.MIN_VALUE, Integer.MIN_VALUE + 9, 70);
    }

    private static void promise45Nothing() {
        DeadStick x = withEnd(0, 1, 7);
        int[][] none = {{-1, 0}, {4, 0}, {0, -1}, {0, 4}, {1, 0}, {2, 0}};
        x.sheet(0, 2, 3);
        x.shelf(2, 2, 0);
        for (int[] n : none) {
            asked(x, 1, 1, 13, 20, 11, 10);
            Due.is("nothing is asked", x.ask(n[0], n[1], 5), 0);
            Due.is("no trace", x.many(10), 0);
            Due.is("no trace", x.trace(0), NONE);
        }
    }

    private static void promise45Parted() {
        DeadStick x = withEnd(2, 1, 2);
        asked(x, 2, 5, PARTED, 12);
        asked(x, 3, 5, (2 * 7 - 3) ^ 2, 13, 20, 11, 10);
        DeadStick y = withEnd(1, 2, 1);
        asked(y, 3, 5, PARTED, 31, 13, 20, 11, 30, 10, 12);
        asked(y, 0, 5, 30, 30, 10);
        DeadStick z = withEnd(0, 4, 0);
        asked(z, 2, 5, PARTED, 50, 12);
        DeadStick w = withEnd(1, 5, 1);
        asked(w, 3, 5, PARTED, 31, 13, 61, 20, 11, 60, 30, 10, 30, 10, 12);
    }

    private static void promise47Many() {
        DeadStick x = new DeadStick();
        Due.is("many", x.many(-1), BAD);
        Due.is("many", x.many(11), BAD);
        x.land(3, 2);
        x.end(1, 0, 0, 0, 0);
        for (int i = 0; i < 2; i++) Due.plan(x, 4);
        for (int i = 0; i < 3; i++) x.scene(1, 0, 0, 0);
        Due.read(x, "left if 1=1;left if 1=1;left if 1=1;left if 1=1;");
        for (int i = 0; i < 5; i++) x.step(1, 1, 1);
        for (int i = 0; i < 7; i++) x.job(1);
        for (int i = 0; i < 8; i++) x.trial(false, 0, 0);
        x.prove(0);
        x.feed(0, 8);
        x.feed(0, 1);
        x.shelf(0, 0, 0);
        x.ask(0, 1, 0);
        int[] due = {6, 1, 2, 3, 4, 5, 7, 8, 2, 9, 3};
        for (int i = 0; i <= 10; i++) Due.is("many " + i, x.many(i), due[i]);
    }
}
