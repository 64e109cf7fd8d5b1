import java.util.Arrays;

/** Edges of section 5 and of promises 39 to 47: sheets, shelves, asks, the trace, how many. */
public final class HostEdgesTest {
    private static final int BAD = -1, NONE = -3, STATE = -4;
    private static final int NOTHING = -11, OUTSIDE = -12, KIND = -13, SIZE = -14, PARTED = -15;
    private static final int LEAST = Integer.MIN_VALUE, MOST = Integer.MAX_VALUE;
    private static final int FIELD = 1, ROAD = 2, WATER = 3, HILL = 4, HELPED = 5, SCENE = 6;
    private static final int REACHES = 0, COSTS = 1, BEARS = 2, TELLS = 3;

    public static void main(String[] args) {
        Edges.run(HostEdgesTest.class);
    }

    /** The n-th END is of a FORM and has a COST; it is on SHELF 0. */
    private static DeadStick end(int n, int form, int cost) {
        DeadStick x = new DeadStick();
        for (int i = 0; i < n; i++) x.end(WATER, 0, 0, 2, 1);
        Due.is("end", x.end(form, 0, 0, 2, cost), n);
        Due.is("shelf", x.shelf(0, 0, n), 1);
        return x;
    }

    /** The n-th SCENE has a WEIGHT; it is on SHELF 0. */
    private static DeadStick scene(int n, int weight) {
        DeadStick x = new DeadStick();
        for (int i = 0; i < n; i++) x.scene(1, 0, 0, 0);
        Due.is("scene", x.scene(weight, 0, 0, 0), n);
        Due.is("shelf", x.shelf(0, 1, n), 1);
        return x;
    }

    private static void asked(DeadStick x, int ask, int with, int due, int... trace) {
        String call = "ask " + ask + " with " + with;
        Due.is(call, x.ask(0, ask, with), due);
        Due.is(call + ": bodies", x.many(10), trace.length);
        for (int i = 0; i < trace.length; i++) Due.is(call + ": trace " + i, x.trace(i), trace[i]);
        Due.is(call + ": no more", x.trace(trace.length), NONE);
    }

    // ---- section 5: forms and bodies

    @Edge(at = "Terms 5", says = "0 end, 1 field (under end), 2 road (under field), 3 water (under end), 4 hill (under end), 5 helped (under road), 6 scene (under none of these).")
    private static void terms5FormsAndWhatTheyAreUnder() {
        int[][] under = {{0, 1}, {0, 1, 2}, {0, 3}, {0, 4}, {0, 1, 2, 5}};
        for (int form = FIELD; form <= HELPED; form++) {
            DeadStick x = end(0, form, 0);
            for (int as = 0; as <= 6; as++) {
                int due = KIND;
                for (int u : under[form - 1]) if (u == as) due = 0;
                Due.is("form " + form + " as " + as, x.taken(0, as), due);
            }
        }
        DeadStick x = scene(0, 1);
        for (int as = 0; as <= 6; as++) Due.is("scene as " + as, x.taken(0, as), as == 6 ? 0 : KIND);
    }

    @Edge(at = "Terms 5", says = "n: its number, a: COST, WEIGHT.")
    private static void terms5NumberAndAmountLeastAndMost() {
        asked(end(0, FIELD, 0), REACHES, 5, 5, 10);
        asked(end(7, FIELD, 999), REACHES, 5, 1004, 10);
        asked(end(7, FIELD, 999), BEARS, 992, 1, 12);
        asked(end(7, HILL, 999), TELLS, 0, 1998 ^ 7, 13, 11, 10);
        asked(scene(0, 1), REACHES, 5, -4, 70);
        asked(scene(4, 99), REACHES, 5, 94, 70);
        asked(scene(4, 99), COSTS, 5, 98, 71, 70);
        asked(scene(0, 99), COSTS, 5, 94, 71, 70);
    }

    @Edge(at = "Terms 5", says = "FORMS: 0 end, 1 field (under end), 2 road (under field), 3 water (under end), 4 hill (under end), 5 helped (under road), 6 scene (under none of these).")
    private static void terms5EachFormByEachAsk() {
        // FORM, ASK, answer, bodies; the number is 3, COST or WEIGHT 10, x 20
        int[][] all = {
            {FIELD, REACHES, 30, 10}, {FIELD, COSTS, 57, 20, 11, 10}, {FIELD, BEARS, 2, 12}, {FIELD, TELLS, 58, 13, 20, 11, 10},
            {ROAD, REACHES, 150, 30, 10}, {ROAD, COSTS, 297, 20, 11, 30, 10}, {ROAD, BEARS, 2, 12},
            {ROAD, TELLS, 298, 31, 13, 20, 11, 30, 10, 12},
            {WATER, REACHES, 30, 10}, {WATER, COSTS, -60, 40, 11, 10}, {WATER, BEARS, 2, 12}, {WATER, TELLS, -57, 13, 40, 11, 10},
            {HILL, REACHES, 30, 10}, {HILL, COSTS, 60, 11, 10}, {HILL, BEARS, 3, 50, 12}, {HILL, TELLS, 63, 13, 11, 10},
            {HELPED, REACHES, 156, 60, 30, 10}, {HELPED, COSTS, 374, 61, 20, 11, 60, 30, 10, 30, 10}, {HELPED, BEARS, 2, 12},
            {HELPED, TELLS, 373, 31, 13, 61, 20, 11, 60, 30, 10, 30, 10, 12},
            {SCENE, REACHES, -10, 70}, {SCENE, COSTS, -7, 71, 70}, {SCENE, BEARS, 0, 72}, {SCENE, TELLS, -7, 73, 71, 70, 72},
        };
        for (int[] a : all) {
            DeadStick x = a[0] == SCENE ? scene(3, 10) : end(3, a[0], 10);
            asked(x, a[1], 20, a[2], Arrays.copyOfRange(a, 3, a.length));
        }
    }

    @Edge(at = "Terms 5", says = "end: 10 reaches: x + a.")
    private static void terms5Body10Wraps() {
        DeadStick x = end(0, FIELD, 999);
        asked(x, REACHES, MOST - 999, MOST, 10);
        asked(x, REACHES, MOST - 998, LEAST, 10);
        asked(x, REACHES, MOST, LEAST + 998, 10);
        asked(x, REACHES, LEAST, LEAST + 999, 10);
        asked(x, REACHES, -999, 0, 10);
    }

    @Edge(at = "Terms 5", says = "11 costs: reaches(x) * 2.")
    private static void terms5Body11Wraps() {
        DeadStick x = end(0, HILL, 5);
        asked(x, COSTS, (1 << 30) - 6, MOST - 1, 11, 10);
        asked(x, COSTS, (1 << 30) - 5, LEAST, 11, 10);
        asked(x, COSTS, -(1 << 30) - 5, LEAST, 11, 10);
        asked(x, COSTS, -(1 << 30) - 6, MOST - 1, 11, 10);
        asked(x, COSTS, -5, 0, 11, 10);
    }

    @Edge(at = "Terms 5", says = "12 bears: x by (a - n), the rest away")
    private static void terms5Body12TheRestAway() {
        DeadStick by2 = end(1, FIELD, 3);
        int[][] halves = {{7, 3}, {6, 3}, {1, 0}, {0, 0}, {-1, 0}, {-2, -1}, {-7, -3}, {MOST, MOST / 2}, {LEAST, LEAST / 2}};
        for (int[] h : halves) asked(by2, BEARS, h[0], h[1], 12);
        DeadStick byLess = end(3, FIELD, 0);
        int[][] thirds = {{7, -2}, {6, -2}, {2, 0}, {-2, 0}, {-7, 2}, {MOST, -715827882}, {LEAST, 715827882}};
        for (int[] t : thirds) asked(byLess, BEARS, t[0], t[1], 12);
    }

    @Edge(at = "Terms 5", says = "(-15 if a is n; that is all that ask() answers then)")
    private static void terms5PartedBy0() {
        for (int n = 0; n <= 7; n += 7) {
            asked(end(n, FIELD, n), BEARS, 5, PARTED, 12);
            asked(end(n, FIELD, n), BEARS, 0, PARTED, 12);
            asked(end(n, FIELD, n + 1), BEARS, 5, 5, 12);
            asked(end(n, HILL, n), BEARS, 5, PARTED, 50, 12);
            asked(end(n, ROAD, n), TELLS, 5, PARTED, 31, 13, 20, 11, 30, 10, 12);
            asked(end(n, HELPED, n), TELLS, 5, PARTED, 31, 13, 61, 20, 11, 60, 30, 10, 30, 10, 12);
        }
        // by -1: the least int wraps to itself
        DeadStick x = end(1, FIELD, 0);
        asked(x, BEARS, 5, -5, 12);
        asked(x, BEARS, LEAST, LEAST, 12);
        asked(x, BEARS, MOST, -MOST, 12);
        // what asks no bears isn't parted, and the next ask is as ever
        DeadStick y = end(2, FIELD, 2);
        asked(y, BEARS, 5, PARTED, 12);
        asked(y, REACHES, 5, 7, 10);
        asked(y, TELLS, 5, 11 ^ 2, 13, 20, 11, 10);
        // a SCENE's bears parts nothing, though a is n
        asked(scene(1, 1), BEARS, 5, 1, 72);
    }

    @Edge(at = "Terms 5", says = "13 tells: costs(x) ^ n.")
    private static void terms5Body13() {
        asked(end(0, HILL, 5), TELLS, (1 << 30) - 5, LEAST, 13, 11, 10);
        asked(end(7, HILL, 5), TELLS, (1 << 30) - 5, LEAST + 7, 13, 11, 10);
        asked(end(7, WATER, 5), TELLS, -4, -2 ^ 7, 13, 40, 11, 10);
        asked(end(7, FIELD, 5), TELLS, -5, -3 ^ 7, 13, 20, 11, 10);
    }

    @Edge(at = "Terms 5", says = "field: 20 costs: super.costs(x) - 3.")
    private static void terms5Body20Wraps() {
        DeadStick x = end(0, FIELD, 5);
        asked(x, COSTS, (1 << 30) - 5, MOST - 2, 20, 11, 10);
        asked(x, COSTS, (1 << 30) - 6, MOST - 4, 20, 11, 10);
        asked(x, COSTS, -5, -3, 20, 11, 10);
    }

    @Edge(at = "Terms 5", says = "road: 30 reaches: super.reaches(x) * 5.")
    private static void terms5Body30Wraps() {
        DeadStick x = end(0, ROAD, 1);
        asked(x, REACHES, 429496728, MOST - 2, 30, 10);
        asked(x, REACHES, 429496729, LEAST + 2, 30, 10);
        asked(x, REACHES, MOST, LEAST, 30, 10);
        asked(x, COSTS, -1, -3, 20, 11, 30, 10);
    }

    @Edge(at = "Terms 5", says = "31 tells: super.tells(x) + bears(n + 2).")
    private static void terms5Body31Wraps() {
        // (214748364 + 1) * 5 * 2 - 3 wraps to the most int; bears(2) by 1 is 2
        asked(end(0, ROAD, 1), TELLS, 214748364, LEAST + 1, 31, 13, 20, 11, 30, 10, 12);
        asked(end(2, ROAD, 4), TELLS, -4, (-3 ^ 2) + 2, 31, 13, 20, 11, 30, 10, 12);
        asked(end(7, ROAD, 999), TELLS, -999, -3 ^ 7, 31, 13, 20, 11, 30, 10, 12);
    }

    @Edge(at = "Terms 5", says = "water: 40 costs: 0 - super.costs(x).")
    private static void terms5Body40Wraps() {
        DeadStick x = end(0, WATER, 5);
        asked(x, COSTS, (1 << 30) - 5, LEAST, 40, 11, 10);
        asked(x, COSTS, (1 << 30) - 6, -MOST + 1, 40, 11, 10);
        asked(x, COSTS, -5, 0, 40, 11, 10);
    }

    @Edge(at = "Terms 5", says = "hill: 50 bears: super.bears(x + 1).")
    private static void terms5Body50Wraps() {
        DeadStick x = end(0, HILL, 1);
        asked(x, BEARS, MOST - 1, MOST, 50, 12);
        asked(x, BEARS, MOST, LEAST, 50, 12);
        asked(x, BEARS, -1, 0, 50, 12);
        asked(end(0, HILL, 2), BEARS, 2, 1, 50, 12);
        asked(end(0, HILL, 2), BEARS, 3, 2, 50, 12);
        asked(end(0, HILL, 2), BEARS, -4, -1, 50, 12);
    }

    @Edge(at = "Terms 5", says = "helped: 60 reaches: super.reaches(x) ^ a.")
    private static void terms5Body60() {
        DeadStick x = end(0, HELPED, 999);
        asked(x, REACHES, -999, 999, 60, 30, 10);
        asked(x, REACHES, -1000, -5 ^ 999, 60, 30, 10);
        asked(end(0, HELPED, 0), REACHES, 429496730, LEAST + 2, 60, 30, 10);
    }

    @Edge(at = "Terms 5", says = "61 costs: super.costs(x) + super.reaches(n).")
    private static void terms5Body61Wraps() {
        // 214748365 * 5 * 2 - 3 wraps to the most int; reaches(1) of a road is 5
        asked(end(1, HELPED, 0), COSTS, 214748365, LEAST + 4, 61, 20, 11, 60, 30, 10, 30, 10);
        asked(end(0, HELPED, 0), COSTS, 0, -3, 61, 20, 11, 60, 30, 10, 30, 10);
        asked(end(7, HELPED, 1), COSTS, -1, 2 * 1 - 3 + 40, 61, 20, 11, 60, 30, 10, 30, 10);
    }

    @Edge(at = "Terms 5", says = "scene: 70 reaches: a - x.")
    private static void terms5Body70Wraps() {
        DeadStick x = scene(0, 99);
        asked(x, REACHES, 99, 0, 70);
        asked(x, REACHES, MOST, 99 - MOST, 70);
        asked(x, REACHES, 99 - MOST, MOST, 70);
        asked(x, REACHES, 98 - MOST, LEAST, 70);
        asked(x, REACHES, LEAST, LEAST + 99, 70);
    }

    @Edge(at = "Terms 5", says = "71 costs: reaches(x) + n.")
    private static void terms5Body71Wraps() {
        asked(scene(1, 99), COSTS, 99 - MOST, LEAST, 71, 70);
        asked(scene(1, 99), COSTS, 100 - MOST, MOST, 71, 70);
        asked(scene(4, 1), COSTS, 5, 0, 71, 70);
    }

    @Edge(at = "Terms 5", says = "72 bears: x & a.")
    private static void terms5Body72() {
        DeadStick x = scene(0, 99);
        int[][] both = {{0, 0}, {-1, 99}, {99, 99}, {MOST, 99}, {LEAST, 0}, {28, 0}, {96, 96}};
        for (int[] b : both) asked(x, BEARS, b[0], b[1], 72);
    }

    @Edge(at = "Terms 5", says = "73 tells: costs(x) - bears(x).")
    private static void terms5Body73Wraps() {
        // costs wraps to the least int, bears is 100 & 99
        asked(scene(1, 99), TELLS, LEAST + 100, MOST - 95, 73, 71, 70, 72);
        asked(scene(1, 99), TELLS, 0, 100, 73, 71, 70, 72);
        asked(scene(4, 1), TELLS, 5, -1, 73, 71, 70, 72);
    }

    @Edge(at = "Terms 5", says = "THE TRACE: numbers of the bodies that ran in the latest ask(), as they began (left first); the first 30 are kept.")
    private static void terms5TheTraceOfTheLatestAsk() {
        DeadStick x = end(2, HELPED, 6);
        Due.is("none at first", x.many(10), 0);
        Due.is("none at first", x.trace(0), NONE);
        // the most that there can be are eleven
        asked(x, TELLS, 3, 122, 31, 13, 61, 20, 11, 60, 30, 10, 30, 10, 12);
        asked(x, BEARS, 9, 2, 12);
        asked(x, REACHES, 3, 43, 60, 30, 10);
        Due.is("nothing is asked", x.ask(1, REACHES, 3), 0);
        Due.is("none", x.many(10), 0);
        Due.is("none", x.trace(0), NONE);
    }

    // ---- section 5: sheets and shelves

    @Edge(at = "Terms 5", says = "SHEETS 0 to 3 are rows of")
    private static void terms5SheetsAre0To3() {
        DeadStick x = new DeadStick();
        for (int sheet = 0; sheet <= 3; sheet++) Due.fill(x, sheet, 2, 100 + sheet);
        for (int sheet = 0; sheet <= 3; sheet++) Due.is("each its own", x.item(sheet, 2, 0), 100 + sheet);
        Due.beyond("sheet", v -> x.sheet(v, 2, 1), 0, 3, BAD);
        Due.beyond("put", v -> x.put(v, 0, 1), 0, 3, BAD);
        Due.beyond("item", v -> x.item(v, 2, 0), 0, 3, BAD);
    }

    @Edge(at = "Terms 5", says = "bytes (sort 0), shorts (1), ints (2), longs (3) or booleans (4)")
    private static void terms5SheetsOfFiveSorts() {
        int[] puts = {127, 128, -128, -129, 255, 256, 32767, 32768, -32768, -32769, 65535, 65536, MOST, LEAST, -1, 0, 1, 2};
        int[][] items = {
            {127, -128, -128, 127, -1, 0, -1, 0, 0, -1, -1, 0, -1, 0, -1, 0, 1, 2},
            {127, 128, -128, -129, 255, 256, 32767, -32768, -32768, 32767, -1, 0, -1, 0, -1, 0, 1, 2},
            puts, puts,
            {1, 1, 1, 1, 1, 1, 1, 1, 1, 1, 1, 1, 1, 1, 1, 0, 1, 1},
        };
        for (int sort = 0; sort <= 4; sort++) {
            DeadStick x = new DeadStick();
            Due.fill(x, 0, sort, puts);
            for (int i = 0; i < puts.length; i++) Due.is(puts[i] + " as sort " + sort, x.item(0, sort, i), items[sort][i]);
        }
    }

    @Edge(at = "Terms 5", says = "64 at most")
    private static void terms5SheetsHave64ItemsAtMost() {
        DeadStick x = new DeadStick();
        for (int sort = 0; sort <= 4; sort++) {
            int s = sort;
            for (int n : new int[] {0, 1, 63, 64}) {
                Due.is("sheet of " + n, x.sheet(0, sort, n), 1);
                Due.is("its last", x.put(0, n - 1, 1), n == 0 ? OUTSIDE : 1);
                Due.is("behind it", x.put(0, n, 1), OUTSIDE);
            }
            for (int n : new int[] {65, 66, 127, 128, 256, MOST}) Due.is("sheet of " + n, x.sheet(0, s, n), BAD);
            Due.is("64 still", x.item(0, sort, 63), 1);
        }
    }

    @Edge(at = "Terms 5", says = "or missing (at first).")
    private static void terms5SheetsAreMissingAtFirst() {
        DeadStick x = new DeadStick();
        for (int sheet = 0; sheet <= 3; sheet++) {
            Due.is("put", x.put(sheet, 0, 1), NOTHING);
            for (int sort = 0; sort <= 4; sort++) Due.is("item", x.item(sheet, sort, 0), NOTHING);
            Due.is("lay", x.lay(sheet, 0), NOTHING);
            Due.is("plan", x.plan(sheet), NOTHING);
            Due.is("flies", x.flies(sheet, 0, 0), NOTHING);
        }
    }

    @Edge(at = "Terms 5", says = "SHELVES 0 to 3 hold an END, a SCENE")
    private static void terms5ShelvesAre0To3() {
        DeadStick x = new DeadStick();
        for (int i = 0; i < 4; i++) x.end(FIELD, 0, 0, 2, i);
        for (int shelf = 0; shelf <= 3; shelf++) Due.is("shelf", x.shelf(shelf, 0, 3 - shelf), 1);
        for (int shelf = 0; shelf <= 3; shelf++) {
            Due.is("each its own", x.taken(shelf, 0), 3 - shelf);
            Due.is("asked", x.ask(shelf, REACHES, 10), 13 - shelf);
        }
        Due.beyond("shelf", v -> x.shelf(v, 0, 0), 0, 3, BAD);
        Due.beyond("taken", v -> x.taken(v, 0), 0, 3, BAD);
        Due.beyond("ask", v -> x.ask(v, REACHES, 10), 0, 3, 0);
    }

    @Edge(at = "Terms 5", says = "(by its number; nothing, if there is no such one any more)")
    private static void terms5NothingIfThereIsNoSuchOneAnyMore() {
        DeadStick x = new DeadStick();
        x.end(FIELD, 0, 0, 2, 1);
        x.scene(7, 0, 0, 0);
        x.keep();
        x.end(ROAD, 0, 0, 2, 2);
        x.scene(8, 0, 0, 0);
        for (int shelf = 0; shelf < 4; shelf++) x.shelf(shelf, shelf / 2, shelf % 2);
        int[] dues = {0, 1, 0, 1};
        for (int shelf = 0; shelf < 4; shelf++) Due.is("held", x.taken(shelf, shelf / 2 * 6), dues[shelf]);
        x.again();
        int[] left = {0, NOTHING, 0, NOTHING};
        for (int shelf = 0; shelf < 4; shelf++) {
            Due.is("held still, or nothing", x.taken(shelf, shelf / 2 * 6), left[shelf]);
            Due.is("asked still, or nothing", x.ask(shelf, REACHES, 5), new int[] {6, 0, 2, 0}[shelf]);
        }
        x.end(HILL, 0, 0, 2, 9);
        x.scene(50, 0, 0, 0);
        Due.is("another END of this number", x.taken(1, 4), 1);
        Due.is("it is no road", x.taken(1, 2), KIND);
        Due.is("another SCENE of this number", x.ask(3, REACHES, 0), 50);
    }

    @Edge(at = "Terms 5", says = "a SHEET's row, or nothing (at first).")
    private static void terms5ShelvesHoldNothingAtFirst() {
        DeadStick x = new DeadStick();
        for (int shelf = 0; shelf <= 3; shelf++) {
            for (int as = 0; as <= 14; as++) {
                if (as <= 6 || as >= 10) Due.is("nothing as " + as, x.taken(shelf, as), NOTHING);
            }
            Due.is("nothing to ask", x.ask(shelf, REACHES, 5), 0);
        }
        x.sheet(0, 2, 64);
        x.sheet(1, 0, 0);
        Due.is("shelf", x.shelf(0, 2, 0), 1);
        Due.is("shelf", x.shelf(1, 2, 1), 1);
        Due.is("64 ints", x.taken(0, 12), 64);
        Due.is("no bytes", x.taken(1, 10), 0);
        // the row is held, whatever the SHEET becomes
        x.sheet(0, 2, 5);
        x.sheet(1, -1, 0);
        Due.is("64 ints", x.taken(0, 12), 64);
        Due.is("no bytes", x.taken(1, 10), 0);
    }

    // ---- promises 39 to 42

    @Edge(at = "Promise 39", says = "A SHEET becomes a row of n of a sort, all 0")
    private static void promise39All0() {
        DeadStick x = new DeadStick();
        for (int sort = 0; sort <= 4; sort++) {
            Due.is("sheet", x.sheet(0, sort, 64), 1);
            for (int i = 0; i < 64; i += 63) {
                Due.is("0", x.item(0, sort, i), 0);
                x.put(0, i, 1);
                Due.is("1", x.item(0, sort, i), 1);
            }
            Due.is("the same once more", x.sheet(0, sort, 64), 1);
            for (int i = 0; i < 64; i += 63) Due.is("0 again", x.item(0, sort, i), 0);
            x.put(0, 0, 1);
            x.put(0, 63, 1);
        }
    }

    @Edge(at = "Promise 39", says = "or missing (sort -1; n isn't looked at): 1.")
    private static void promise39Missing() {
        DeadStick x = new DeadStick();
        for (int n : new int[] {0, 1, 64, 65, -1, MOST, LEAST}) {
            x.sheet(0, 2, 3);
            Due.is("missing, n " + n, x.sheet(0, -1, n), 1);
            Due.is("it is missing", x.item(0, 2, 0), NOTHING);
            Due.is("missing once more", x.sheet(0, -1, n), 1);
        }
    }

    @Edge(at = "Promise 39", says = "BAD: no such SHEET, sort, n above 64;")
    private static void promise39NoSuchSheetSortOrNumber() {
        DeadStick x = new DeadStick();
        Due.fill(x, 0, 2, 7);
        Due.fill(x, 3, 2, 7);
        Due.beyond("sheet", v -> x.sheet(v, 0, 1), 0, 3, BAD);
        Due.beyond("sheet", v -> x.sheet(v, -1, 1), 0, 3, BAD);
        Due.beyond("sort", v -> x.sheet(0, v, 1), -1, 4, BAD);
        Due.beyond("sort", v -> x.sheet(3, v, 64), -1, 4, BAD);
        for (int sort = 0; sort <= 4; sort++) {
            Due.is("65", x.sheet(0, sort, 65), BAD);
            Due.is("far above", x.sheet(3, sort, MOST), BAD);
        }
        Due.is("it stays", x.item(0, 2, 0), 7);
        Due.is("it stays", x.item(3, 2, 0), 7);
        Due.is("all at the most", x.sheet(3, 4, 64), 1);
        Due.is("all at the least", x.sheet(0, 0, 0), 1);
    }

    @Edge(at = "Promise 39", says = "n above 64; -14.")
    private static void promise39ASizeBelow0() {
        DeadStick x = new DeadStick();
        Due.fill(x, 0, 2, 7);
        for (int sort = 0; sort <= 4; sort++) {
            for (int n : new int[] {-1, -2, -64, -65, -256, LEAST}) Due.is("size " + n, x.sheet(0, sort, n), SIZE);
        }
        Due.is("it stays", x.item(0, 2, 0), 7);
        Due.is("BAD first: no such SHEET", x.sheet(4, 0, -1), BAD);
        Due.is("BAD first: no such SHEET", x.sheet(-1, 0, -1), BAD);
        Due.is("BAD first: no such sort", x.sheet(0, 5, -1), BAD);
        Due.is("BAD first: no such sort", x.sheet(0, -2, -1), BAD);
        Due.is("it stays", x.item(0, 2, 0), 7);
        Due.is("size 0", x.sheet(0, 0, 0), 1);
    }

    @Edge(at = "Promise 40", says = "narrowed to its sort (booleans: whether it isn't 0): 1.")
    private static void promise40Narrowed() {
        DeadStick x = new DeadStick();
        for (int sort = 0; sort <= 4; sort++) x.sheet(sort % 4, sort, 2);
        // SHEET 0 is of booleans, the last one
        int[] falses = {0};
        int[] trues = {1, -1, 2, 256, 65536, LEAST, MOST};
        for (int v : falses) {
            x.put(0, 1, 1);
            Due.is("put", x.put(0, 1, v), 1);
            Due.is("false", x.item(0, 4, 1), 0);
        }
        for (int v : trues) {
            x.put(0, 1, 0);
            Due.is("put", x.put(0, 1, v), 1);
            Due.is("true by " + v, x.item(0, 4, 1), 1);
        }
        Due.is("the other stays", x.item(0, 4, 0), 0);
        Due.is("a short", x.put(1, 0, 32768), 1);
        Due.is("wraps", x.item(1, 1, 0), -32768);
        Due.is("a long", x.put(3, 0, LEAST), 1);
        Due.is("doesn't", x.item(3, 3, 0), LEAST);
    }

    @Edge(at = "Promise 40", says = "BAD: no such SHEET; -11; -12.")
    private static void promise40NoSuchSheetNothingOrOutside() {
        DeadStick x = new DeadStick();
        Due.beyond("put", v -> x.put(v, 0, 1), 0, 3, BAD);
        Due.beyond("put", v -> x.put(v, -1, 1), 0, 3, BAD);
        Due.is("missing", x.put(0, 0, 1), NOTHING);
        Due.is("missing, outside", x.put(0, -1, 1), NOTHING);
        Due.is("missing, outside", x.put(0, 64, 1), NOTHING);
        for (int n : new int[] {1, 2, 64}) {
            x.sheet(0, 2, n);
            Due.is("the first", x.put(0, 0, 1), 1);
            Due.is("the last", x.put(0, n - 1, 2), 1);
            Due.beyond("put in " + n, i -> x.put(0, i, 3), 0, n - 1, OUTSIDE);
            Due.is("nothing changed", x.item(0, 2, n - 1), 2);
        }
        x.sheet(0, 2, 0);
        Due.is("no items", x.put(0, 0, 1), OUTSIDE);
        x.sheet(0, -1, 0);
        Due.is("missing again", x.put(0, 0, 1), NOTHING);
    }

    @Edge(at = "Promise 41", says = "of longs the lowest 32 bits, of booleans 1, 0")
    private static void promise41LongsAndBooleans() {
        DeadStick x = new DeadStick();
        int[] puts = {0, 1, -1, MOST, LEAST};
        Due.fill(x, 0, 3, puts);
        Due.fill(x, 1, 4, puts);
        for (int i = 0; i < 5; i++) {
            Due.is("long", x.item(0, 3, i), puts[i]);
            Due.is("boolean", x.item(1, 4, i), i == 0 ? 0 : 1);
        }
    }

    @Edge(at = "Promise 41", says = "Item i, taken for a sort (0 to 4;")
    private static void promise41SortsAre0To4() {
        DeadStick x = new DeadStick();
        for (int sort = 0; sort <= 4; sort++) {
            Due.fill(x, 0, sort, 0, 1, 1);
            Due.is("the first", x.item(0, sort, 0), 0);
            Due.is("the last", x.item(0, sort, 2), 1);
            Due.beyond("sort", v -> x.item(0, v, 2), 0, 4, BAD);
        }
    }

    @Edge(at = "Promise 41", says = "BAD: no such SHEET, sort; -13; -11; -12.")
    private static void promise41TheFirstNamed() {
        DeadStick x = new DeadStick();
        Due.is("missing", x.item(0, 0, 0), NOTHING);
        Due.is("missing, outside", x.item(0, 4, 1), NOTHING);
        Due.is("missing, no such sort", x.item(0, 5, 0), BAD);
        Due.is("missing, no such sort", x.item(0, -1, 0), BAD);
        Due.is("missing, no such SHEET", x.item(4, 0, 0), BAD);
        for (int sort = 0; sort <= 4; sort++) {
            x.sheet(0, sort, 3);
            for (int as = 0; as <= 4; as++) {
                int within = as == sort ? 0 : KIND;
                int outside = as == sort ? OUTSIDE : KIND;
                int[] dues = {outside, within, within, within, outside};
                for (int i = -1; i <= 3; i++) Due.is("sort " + sort + " as " + as, x.item(0, as, i), dues[i + 1]);
                for (int i : new int[] {LEAST, MOST, 64, 256}) Due.is("far outside", x.item(0, as, i), outside);
            }
            Due.is("no such sort, outside", x.item(0, 5, 3), BAD);
            Due.is("no such sort", x.item(0, -1, 0), BAD);
        }
        Due.beyond("sheet", v -> x.item(v, 4, 0), 0, 3, BAD);
        Due.beyond("sort", v -> x.item(0, v, 0), 0, 4, BAD);
        x.sheet(0, 1, 0);
        Due.is("no items", x.item(0, 1, 0), OUTSIDE);
        Due.is("no items, another kind", x.item(0, 2, 0), KIND);
    }

    @Edge(at = "Promise 41", says = "(An item may be as low as these, too.)")
    private static void promise41ItemsAsLowAsRefusals() {
        DeadStick x = new DeadStick();
        int[] low = {-1, -2, -3, -4, -11, -12, -13, -14, -15};
        for (int sort = 0; sort <= 3; sort++) {
            Due.fill(x, sort, sort, low);
            for (int i = 0; i < low.length; i++) Due.is("item", x.item(sort, sort, i), low[i]);
        }
    }

    @Edge(at = "Promise 42", says = "n (0 to 30) of them from item i on")
    private static void promise42From0To30() {
        DeadStick x = new DeadStick();
        x.table(1, 1);
        x.table(3, 0);
        x.craft(0, 27);
        int[] turns = new int[64];
        Arrays.fill(turns, 7);
        Due.fill(x, 0, 2, turns);
        Due.beyond("flies", n -> x.flies(0, 0, n), 0, 30, BAD);
        Due.is("none was done", x.craftOf(4), 0);
        Due.is("none", x.flies(0, 0, 0), 0);
        Due.is("none was done", x.craftOf(4), 0);
        Due.is("one", x.flies(0, 63, 1), 1);
        Due.is("30", x.flies(0, 0, 30), 30);
        Due.is("TICK", x.craftOf(4), 31);
        x.craft(3, 99);
        Due.is("the last 30", x.flies(0, 34, 30), 30);
        Due.is("TICK", x.craftOf(4), 61);
        Due.is("HEIGHT", x.craftOf(3), 69);
    }

    @Edge(at = "Promise 42", says = "(such as aren't, or MAY not BE, are left out): how many were done.")
    private static void promise42LeftOut() {
        DeadStick x = new DeadStick();
        Due.fill(x, 0, 2, -1, 9, LEAST, MOST, 260, 0, 1, 2, 4, 8);
        // no ACTS; left off the land; straight, then right and faster
        Due.is("no ACTS", x.flies(0, 0, 5), 0);
        Due.is("left", x.flies(0, 5, 3), 0);
        Due.is("TICK", x.craftOf(4), 0);
        Due.is("two", x.flies(0, 0, 10), 2);
        Due.is("TICK", x.craftOf(4), 2);
        Due.is("cell", x.craftOf(0), 17);
        Due.is("HEIGHT", x.craftOf(3), 60 - 2 - 4 - 2 - 1);
        x.craft(3, 1);
        Due.is("DOWN behind the first", x.flies(0, 8, 2), 1);
        Due.is("DOWN", x.flies(0, 0, 10), 0);
        DeadStick y = new DeadStick();
        y.table(1, 1);
        y.table(3, 0);
        y.craft(1, 0);
        Due.fill(y, 0, 2, 7, 7, 7, 7);
        for (int i = 0; i < 198; i++) {
            if (i % 50 == 0) y.craft(3, 60);
            y.fly(7);
        }
        Due.is("to TICK 200", y.flies(0, 0, 4), 2);
        Due.is("TICK", y.craftOf(4), 200);
        Due.is("none at 200", y.flies(0, 0, 4), 0);
        Due.is("TICK", y.craftOf(4), 200);
    }

    @Edge(at = "Promise 42", says = "(such as aren't, or MAY not BE, are left out): how many were done.")
    private static void promise42NoActsWhereAllMayBe() {
        DeadStick x = new DeadStick();
        x.craft(0, 27);
        Due.is("all ACTS", x.acts(), 511);
        int[] others = {-1, -2, -3, -9, 9, 10, 11, 12, 13, 18, 256, 260, 65540, LEAST, LEAST + 4, MOST};
        Due.fill(x, 0, 2, others);
        Due.is("none is done", x.flies(0, 0, others.length), 0);
        int[] now = {27, 1, 1, 60, 0};
        for (int what = 0; what < 5; what++) Due.is("craft " + what, x.craftOf(what), now[what]);
    }

    @Edge(at = "Promise 42", says = "BAD: no such SHEET, n; -13; -11;")
    private static void promise42TheFirstNamed() {
        DeadStick x = new DeadStick();
        Due.is("missing", x.flies(0, 0, 1), NOTHING);
        Due.is("missing, none", x.flies(0, 0, 0), NOTHING);
        Due.is("missing, outside", x.flies(0, -1, 1), NOTHING);
        Due.is("missing, no such n", x.flies(0, 0, 31), BAD);
        Due.is("missing, no such SHEET", x.flies(4, 0, 1), BAD);
        for (int sort = 0; sort <= 4; sort++) {
            x.sheet(0, sort, 1);
            if (sort == 2) continue;
            Due.is("of sort " + sort, x.flies(0, 0, 1), KIND);
            Due.is("of sort " + sort + ", none", x.flies(0, 0, 0), KIND);
            Due.is("of sort " + sort + ", outside", x.flies(0, 1, 1), KIND);
            Due.is("of sort " + sort + ", no such n", x.flies(0, 0, -1), BAD);
        }
        x.sheet(0, 2, 1);
        Due.is("outside, no such n", x.flies(0, 5, 31), BAD);
        Due.beyond("sheet", v -> x.flies(v, 0, 1), 0, 3, BAD);
        Due.beyond("n", v -> x.flies(0, 0, v), 0, 30, BAD);
        Due.is("none was done", x.craftOf(4), 0);
    }

    @Edge(at = "Promise 42", says = "-12: what stood ahead was done.")
    private static void promise42OutsideButDoneAhead() {
        DeadStick x = new DeadStick();
        Due.fill(x, 0, 2, 4, 4, 4);
        for (int i : new int[] {3, 4, -1, -2, 64, MOST, MOST - 5, LEAST}) Due.is("from " + i, x.flies(0, i, 30), OUTSIDE);
        Due.is("none was done", x.craftOf(4), 0);
        Due.is("just within", x.flies(0, 2, 1), 1);
        Due.is("the last, and one more", x.flies(0, 2, 2), OUTSIDE);
        Due.is("the last was done", x.craftOf(4), 2);
        Due.is("its cell", x.craftOf(0), 2);
        Due.is("all, and many more", x.flies(0, 0, 30), OUTSIDE);
        Due.is("all were done", x.craftOf(4), 5);
        Due.is("HEIGHT", x.craftOf(3), 50);
        x.sheet(0, 2, 0);
        Due.is("no items", x.flies(0, 0, 1), OUTSIDE);
        Due.is("none of no items", x.flies(0, 0, 0), 0);
    }

    @Edge(at = "Promise 42", says = "-12: what stood ahead was done.")
    private static void promise42NothingIsDoneOutside() {
        // in the middle all ACTS MAY BE, so what is done outside would be seen
        DeadStick x = new DeadStick();
        x.craft(0, 27);
        Due.is("all ACTS", x.acts(), 511);
        Due.fill(x, 0, 2, 4, 4);
        for (int i : new int[] {2, 3, -1, -2, 63, 64, MOST, LEAST}) Due.is("from " + i, x.flies(0, i, 1), OUTSIDE);
        int[] now = {27, 1, 1, 60, 0};
        for (int what = 0; what < 5; what++) Due.is("craft " + what, x.craftOf(what), now[what]);
        Due.is("one within, one outside", x.flies(0, 1, 2), OUTSIDE);
        int[] then = {28, 1, 1, 58, 1};
        for (int what = 0; what < 5; what++) Due.is("craft " + what, x.craftOf(what), then[what]);
    }

    // ---- promises 43 to 47

    @Edge(at = "Promise 43", says = "the row of SHEET n (2; nothing, if missing), nothing (3): 1.")
    private static void promise43Nothing() {
        DeadStick x = end(0, FIELD, 1);
        Due.is("missing", x.shelf(0, 2, 3), 1);
        Due.is("nothing", x.taken(0, 0), NOTHING);
        for (int n : new int[] {0, -1, 9, MOST, LEAST}) {
            x.shelf(0, 0, 0);
            Due.is("held", x.taken(0, 0), 0);
            Due.is("nothing, n " + n, x.shelf(0, 3, n), 1);
            Due.is("nothing", x.taken(0, 0), NOTHING);
        }
        x.sheet(3, 0, 0);
        Due.is("a row of none", x.shelf(0, 2, 3), 1);
        Due.is("a row of none", x.taken(0, 10), 0);
    }

    @Edge(at = "Promise 43", says = "nothing (3): 1. BAD.")
    private static void promise43NoSuchShelfWhatOrThing() {
        DeadStick x = new DeadStick();
        Due.is("no ENDS", x.shelf(0, 0, 0), BAD);
        Due.is("no SCENES", x.shelf(0, 1, 0), BAD);
        x.end(FIELD, 0, 0, 2, 0);
        x.end(FIELD, 0, 0, 2, 0);
        for (int i = 0; i < 3; i++) x.scene(1, 0, 0, 0);
        x.sheet(0, 0, 5);
        Due.is("held", x.shelf(0, 0, 1), 1);
        for (int what = 0; what <= 3; what++) {
            int w = what;
            Due.beyond("shelf", v -> x.shelf(v, w, 0), 0, 3, BAD);
        }
        Due.beyond("what", v -> x.shelf(0, v, 0), 0, 3, BAD);
        Due.beyond("END", v -> x.shelf(0, 0, v), 0, 1, BAD);
        Due.beyond("SCENE", v -> x.shelf(0, 1, v), 0, 2, BAD);
        Due.beyond("SHEET", v -> x.shelf(0, 2, v), 0, 3, BAD);
        Due.is("a refused one changes nothing", x.taken(0, 1), 1);
        Due.is("the last SCENE", x.shelf(3, 1, 2), 1);
        Due.is("the last SCENE", x.taken(3, 6), 2);
    }

    @Edge(at = "Promise 44", says = "for a row of sort as - 10 (as 10 to 14): how many items.")
    private static void promise44RowsOfEachSort() {
        DeadStick x = new DeadStick();
        for (int sort = 0; sort <= 4; sort++) {
            for (int n : new int[] {0, 1, 64}) {
                x.sheet(0, sort, n);
                Due.is("shelf", x.shelf(0, 2, 0), 1);
                for (int as = 10; as <= 14; as++) Due.is("sort " + sort + " as " + as, x.taken(0, as), as == 10 + sort ? n : KIND);
            }
        }
    }

    @Edge(at = "Promise 44", says = "taken for a thing of FORM as (0 to 6, or one under it): its number;")
    private static void promise44TheNumberOfAThingOrOfOneUnderIt() {
        Due.is("the first END, as an end", end(0, HELPED, 0).taken(0, 0), 0);
        DeadStick x = end(7, HELPED, 0);
        for (int as : new int[] {0, 1, 2, 5}) Due.is("the last END as " + as, x.taken(0, as), 7);
        Due.is("a road isn't helped", end(7, ROAD, 0).taken(0, 5), KIND);
        Due.is("a field is no road", end(7, FIELD, 0).taken(0, 2), KIND);
        Due.is("the first SCENE", scene(0, 1).taken(0, 6), 0);
        Due.is("the last SCENE", scene(4, 99).taken(0, 6), 4);
        Due.is("a SCENE is no end", scene(4, 99).taken(0, 0), KIND);
    }

    @Edge(at = "Promise 44", says = "BAD: no such SHELF, as; -13; -11.")
    private static void promise44TheFirstNamed() {
        DeadStick x = end(0, FIELD, 0);
        x.scene(1, 0, 0, 0);
        x.shelf(1, 1, 0);
        x.sheet(0, 0, 1);
        x.shelf(2, 2, 0);
        int[] bad = {-1, 7, 8, 9, 15, 16, LEAST, MOST, 256, -10};
        for (int shelf = 0; shelf <= 3; shelf++) {
            for (int as : bad) Due.is("SHELF " + shelf + " as " + as, x.taken(shelf, as), BAD);
        }
        for (int as : new int[] {0, 6, 10, 14}) {
            int a = as;
            Due.beyond("shelf", v -> x.taken(v, a), 0, 3, BAD);
        }
        int[][] dues = {{0, 0}, {6, KIND}, {10, KIND}, {14, KIND}};
        for (int[] d : dues) Due.is("END as " + d[0], x.taken(0, d[0]), d[1]);
        int[][] scenes = {{0, KIND}, {6, 0}, {10, KIND}, {14, KIND}};
        for (int[] d : scenes) Due.is("SCENE as " + d[0], x.taken(1, d[0]), d[1]);
        int[][] rows = {{0, KIND}, {6, KIND}, {10, 1}, {14, KIND}};
        for (int[] d : rows) Due.is("row as " + d[0], x.taken(2, d[0]), d[1]);
        for (int[] d : rows) Due.is("nothing as " + d[0], x.taken(3, d[0]), NOTHING);
    }

    @Edge(at = "Promise 45", says = "ASKS (0 to 3) the thing on a SHELF, with x.")
    private static void promise45FourAsksAndNoMore() {
        DeadStick x = end(0, FIELD, 2);
        asked(x, 0, 5, 7, 10);
        asked(x, 1, 5, 11, 20, 11, 10);
        asked(x, 2, 5, 2, 12);
        asked(x, 3, 5, 11, 13, 20, 11, 10);
        Due.beyond("ask", v -> x.ask(0, v, 5), 0, 3, 0);
        Due.is("no TRACE", x.many(10), 0);
        asked(scene(0, 1), 3, 5, -4 - 1, 73, 71, 70, 72);
    }

    @Edge(at = "Promise 45", says = "0, and no TRACE then: no such SHELF, ask, nothing, a row of a SHEET.")
    private static void promise45NothingIsAsked() {
        DeadStick x = end(0, FIELD, 7);
        x.sheet(0, 2, 3);
        x.shelf(2, 2, 0);
        int[][] none = {
            {-1, 0}, {4, 0}, {LEAST, 0}, {MOST, 0}, {256, 0}, {0, -1}, {0, 4}, {0, LEAST}, {0, MOST}, {0, 256}, {4, 4},
            {1, 0}, {1, 3}, {2, 0}, {2, 3}, {3, 1},
        };
        for (int[] n : none) {
            asked(x, COSTS, 1, 13, 20, 11, 10);
            Due.is("SHELF " + n[0] + ", ask " + n[1], x.ask(n[0], n[1], 5), 0);
            Due.is("no TRACE", x.many(10), 0);
            Due.is("no TRACE", x.trace(0), NONE);
        }
    }

    @Edge(at = "Promise 46", says = "THE TRACE's i-th body. NONE.")
    private static void promise46NoSuchBody() {
        DeadStick x = end(0, FIELD, 7);
        Due.beyond("trace of none", x::trace, 0, -1, NONE);
        Due.is("trace of none", x.trace(0), NONE);
        x.ask(0, TELLS, 5);
        int[] trace = {13, 20, 11, 10};
        for (int i = 0; i < 4; i++) Due.is("trace", x.trace(i), trace[i]);
        Due.beyond("trace of four", x::trace, 0, 3, NONE);
        for (int i : new int[] {29, 30, 31}) Due.is("trace " + i, x.trace(i), NONE);
    }

    @Edge(at = "Promise 47", says = "10 bodies of THE TRACE. BAD: another what.")
    private static void promise47AnotherWhat() {
        DeadStick x = new DeadStick();
        Due.beyond("many", x::many, 0, 10, BAD);
        for (int what = 1; what <= 10; what++) Due.is("none", x.many(what), 0);
        Due.is("cells", x.many(0), 64);
    }

    @Edge(at = "Promise 47", says = "How many: what = 0 cells, 1 ENDS, 2 PLANS, 3 SCENES, 4 LINES of HANDS, 5 STEPS, 6 JOBS, 7 TRIALS, 8 ROWS, 9 bytes of THE TAPE")
    private static void promise47TheMostOfEach() {
        DeadStick x = new DeadStick();
        for (int i = 0; i < 8; i++) x.end(HELPED, 0, 0, 2, 900);
        for (int i = 0; i < 4; i++) Due.is("plan", Due.plan(x), i);
        for (int i = 0; i < 5; i++) x.scene(1, 0, 0, 0);
        Due.is("read", Due.read(x, "left if 1=1;".repeat(9)), 9);
        for (int i = 0; i < 7; i++) x.step(1, 1, 1);
        for (int i = 0; i < 8; i++) x.job(1);
        for (int i = 0; i < 20; i++) x.trial(true, 0, 0);
        x.prove(0);
        Due.feed(x, " ".repeat(240));
        x.shelf(0, 0, 7);
        x.ask(0, TELLS, 0);
        int[] most = {64, 8, 4, 5, 9, 7, 8, 20, 7, 240, 11};
        for (int what = 0; what <= 10; what++) Due.is("many " + what, x.many(what), most[what]);
        Due.is("ENDS hinder", x.land(1, 1), STATE);
        DeadStick y = new DeadStick();
        y.land(1, 1);
        Due.is("one cell", y.many(0), 1);
    }
}
