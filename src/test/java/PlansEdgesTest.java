import java.util.Arrays;

/** Edges of PLANS and SCENES in section 2 and of promises 16 to 22. */
public final class PlansEdgesTest {
    private static final int BAD = -1, FULL = -2, NONE = -3, STATE = -4, KIND = -13, NOTHING = -11;

    public static void main(String[] args) {
        Edges.run(PlansEdgesTest.class);
    }

    private static void flight(String call, DeadStick x, int plan, int scene, int... due) {
        for (int what = 0; what < due.length; what++) {
            Due.is(call + ": flown " + what, x.flown(plan, scene, what), due[what]);
        }
    }

    /** 8 by 1 cells; straight flight to the east takes 2 a TICK. PLAN 0 is straight. */
    private static DeadStick line(int height) {
        DeadStick x = new DeadStick();
        x.land(8, 1);
        x.craft(3, height);
        Due.is("plan", Due.plan(x), 0);
        return x;
    }

    /** Each TICK takes 1; PLAN 0 turns 20 times, from cell 25 to it again, then goes straight, by 6 cells at most. */
    private static DeadStick rounds(int height) {
        DeadStick x = new DeadStick();
        x.table(1, 1);
        x.table(3, 0);
        x.craft(0, 25);
        x.craft(3, height);
        int[] turns = new int[20];
        Arrays.fill(turns, 7);
        Due.is("plan", Due.plan(x, turns), 0);
        return x;
    }

    // ---- section 2

    @Edge(at = "Terms 2", says = "PLANS, 4 at most, numbered as they come")
    private static void terms2PlansAre4AtMost() {
        DeadStick x = new DeadStick();
        for (int i = 0; i < 4; i++) {
            Due.is("many", x.many(2), i);
            Due.is("plan", Due.plan(x, i, 8), i);
        }
        Due.is("the fifth", Due.plan(x, 4, 8), FULL);
        Due.is("many", x.many(2), 4);
        for (int i = 0; i < 4; i++) Due.is("its first ACT", x.planOf(i, 0), i);
    }

    @Edge(at = "Terms 2", says = "rows of up to 20 ACTS.")
    private static void terms2PlansHaveUpTo20Acts() {
        DeadStick x = new DeadStick();
        int[] acts = new int[20];
        for (int i = 0; i < 20; i++) acts[i] = (i + 5) % 9;
        Due.is("none", Due.plan(x), 0);
        Due.is("19", Due.plan(x, Arrays.copyOf(acts, 19)), 1);
        Due.is("20", Due.plan(x, acts), 2);
        Due.is("21", Due.plan(x, Arrays.copyOf(acts, 21)), STATE);
        Due.is("64", Due.plan(x, new int[64]), STATE);
        int[] many = {0, 19, 20};
        for (int plan = 0; plan < 3; plan++) Due.is("how many", x.planOf(plan, -1), many[plan]);
        for (int i = 0; i < 20; i++) Due.is("ACT " + i, x.planOf(2, i), acts[i]);
        DeadStick y = rounds(99);
        int[] turns = new int[19];
        Arrays.fill(turns, 7);
        Due.is("19 turns", Due.plan(y, turns), 1);
        flight("20 turns", y, 0, -1, -9, 31, 26, 999, 0);
        flight("19 turns come to cell 24, north, then three to the border", y, 1, -1, -9, 0, 22, 999, 0);
    }

    @Edge(at = "Terms 2", says = "SCENES, 5 at most, numbered as they come")
    private static void terms2ScenesAre5AtMost() {
        DeadStick x = new DeadStick();
        for (int i = 0; i < 5; i++) {
            Due.is("many", x.many(3), i);
            Due.is("scene", x.scene(1, 1, 1, 1), i);
        }
        Due.is("the sixth", x.scene(1, 1, 1, 1), FULL);
        Due.is("many", x.many(3), 5);
    }

    @Edge(at = "Terms 2", says = "a WEIGHT (1 to 99)")
    private static void terms2WeightIs1To99() {
        DeadStick x = line(10);
        x.end(1, 5, 0, 2, 0);
        Due.beyond("weight", v -> x.scene(v, 0, 0, 0), 1, 99, BAD);
        Due.is("none came", x.many(3), 0);
        Due.is("least", x.scene(1, 0, 0, 0), 0);
        Due.is("most", x.scene(99, 9, 0, 20), 1);
        Due.is("1 of", x.odds(0, 0, 0), 1);
        Due.is("of 100", x.odds(0, 0, 1), 100);
    }

    @Edge(at = "Terms 2", says = "an ENGINE that gives G (0 to 9)")
    private static void terms2EngineGives0To9() {
        DeadStick x = line(4);
        Due.beyond("gives", v -> x.scene(1, v, 0, 20), 0, 9, BAD);
        Due.is("least", x.scene(1, 0, 0, 1), 0);
        Due.is("most", x.scene(1, 9, 0, 1), 1);
        flight("0: 2, 0", x, 0, 0, -9, 2, 2, 999, 1);
        flight("9: 11, 9, 7, 5, 3, 1, 0", x, 0, 1, -9, 7, 7, 999, 1);
        x.craft(3, 3);
        flight("9: 10, 8, 6, 4, 2, 0", x, 0, 1, -9, 6, 6, 999, 1);
    }

    @Edge(at = "Terms 2", says = "in each of N (0 to 20) TICKS")
    private static void terms2EngineGivesIn0To20Ticks() {
        DeadStick x = rounds(1);
        Due.beyond("many", v -> x.scene(1, 1, 0, v), 0, 20, BAD);
        int[] many = {0, 1, 19, 20};
        for (int scene = 0; scene < 4; scene++) {
            Due.is("scene", x.scene(1, 1, 0, many[scene]), scene);
            // 1 less and 1 more till the ENGINE gives no more
            Due.is("TICKS by " + many[scene], x.flown(0, scene, 2), many[scene] + 1);
            Due.is("DOWN", x.flown(0, scene, 4), 1);
        }
    }

    @Edge(at = "Terms 2", says = "the first one A (0 to 20) TICKS from now on.")
    private static void terms2EngineBegins0To20TicksFromNowOn() {
        DeadStick x = rounds(1);
        Due.beyond("from", v -> x.scene(1, 1, v, 1), 0, 20, BAD);
        Due.is("at once", x.scene(1, 1, 0, 20), 0);
        Due.is("one later", x.scene(1, 1, 1, 20), 1);
        Due.is("19 later", x.scene(1, 1, 19, 20), 2);
        Due.is("20 later", x.scene(1, 1, 20, 20), 3);
        Due.is("20 later, once", x.scene(1, 1, 20, 1), 4);
        Due.is("at once: saved in the first TICK", x.flown(0, 0, 2), 21);
        Due.is("one later: too late", x.flown(0, 1, 2), 1);
        x.craft(3, 2);
        Due.is("one later: saved in the second", x.flown(0, 1, 2), 22);
        x.craft(3, 20);
        Due.is("19 later: saved in the 20th", x.flown(0, 2, 4), 0);
        Due.is("20 later: too late", x.flown(0, 3, 2), 20);
        x.craft(3, 21);
        flight("20 later: saved in the 21st", x, 0, 3, -9, 31, 26, 999, 0);
        flight("once, in the 21st", x, 0, 4, -9, 27, 22, 999, 1);
    }

    @Edge(at = "Terms 2", says = "A PLAN is FLOWN in a SCENE from now on")
    private static void terms2FlownFromNowOnNotFromTick0() {
        DeadStick x = line(20);
        Due.is("scene", x.scene(1, 9, 0, 1), 0);
        Due.is("fly", x.fly(4), 18);
        Due.is("fly", x.fly(4), 16);
        x.craft(3, 2);
        // behind two TICKS the ENGINE gives in the first one from now on: 9 at 3, 7, 5, 3, 1 at 7
        flight("from now on", x, 0, 0, -9, 7, 5, 999, 0);
        Due.is("now is as it was", x.craftOf(4), 2);
        Due.is("now is as it was", x.craftOf(0), 2);
        Due.is("now is as it was", x.craftOf(3), 2);
    }

    @Edge(at = "Terms 2", says = "its ACTS one behind the other, then straight ones")
    private static void terms2FlownThenStraight() {
        DeadStick x = line(60);
        Due.is("slower", Due.plan(x, 3), 1);
        Due.is("faster, slower, slower", Due.plan(x, 5, 3, 3), 2);
        // 56 at 1, then slow: 3 each to cell 7
        x.craft(3, 4 + 3 * 3);
        flight("slow straight behind slower", x, 1, -1, -9, 4, 4, 999, 1);
        // 5 to cell 2, 3 to cell 3, 4 to cell 4, then 3 each
        x.craft(3, 5 + 3 + 4 + 3);
        flight("each ACT in its TICK", x, 2, -1, -9, 5, 4, 999, 1);
    }

    @Edge(at = "Terms 2", says = "its ACTS one behind the other, then straight ones")
    private static void terms2FlownStraightBehindNoneToFourActs() {
        // right n times from cell 27, then straight to the border, where each other ACT MAY BE on the way, too
        int[][] dues = {{31, 4}, {59, 4}, {32, 4}, {2, 6}, {31, 8}};
        DeadStick x = new DeadStick();
        x.craft(0, 27);
        for (int n = 0; n <= 4; n++) {
            int[] acts = new int[n];
            Arrays.fill(acts, 7);
            DeadStick y = n < 4 ? x : new DeadStick();
            y.craft(0, 27);
            Due.is("plan", Due.plan(y, acts), n % 4);
            flight(n + " ACTS", y, n % 4, -1, -9, dues[n][0], dues[n][1], 999, 0);
        }
    }

    @Edge(at = "Terms 2", says = "its ACTS one behind the other, then straight ones")
    private static void terms2FlownByEachAct() {
        int[] steps = {-8, 1, 8};
        int[] takes = {3 + 2 + 1, 2 + 2, 4 + 2 + 1, 3 + 1, 2, 4 + 1, 3 + 2 + 1, 2 + 2, 4 + 2 + 1};
        for (int act = 0; act < 9; act++) {
            // where there is room for four cells ahead, two TICKS by fast
            int from = act < 3 ? 35 : 27;
            int cell = from + steps[act / 3] * (act % 3 == 2 ? 2 : 1);
            DeadStick x = new DeadStick();
            x.craft(0, from);
            x.craft(3, takes[act]);
            Due.is("plan", Due.plan(x, act), 0);
            flight("DOWN behind ACT " + act, x, 0, -1, -9, cell, 1, 999, 1);
            x.craft(3, takes[act] + 1);
            Due.is("one more HEIGHT: one more TICK behind ACT " + act, x.flown(0, -1, 2), 2);
        }
    }

    @Edge(at = "Terms 2", says = "one that MAY not BE is taken as straight")
    private static void terms2FlownStraightForOneThatMayNotBe() {
        DeadStick x = line(8);
        Due.is("off the land, too slow", Due.plan(x, 1, 7, 0, 8), 1);
        flight("straight for each: 6, 4, 2, 0", x, 1, -1, -9, 4, 4, 999, 1);
        x.craft(2, 2);
        Due.is("faster than fast", Due.plan(x, 5), 2);
        flight("fast straight: 4, 0", x, 2, -1, -9, 4, 2, 999, 1);
        x.craft(2, 0);
        Due.is("slower than slow", Due.plan(x, 3), 3);
        flight("slow straight: 5, 2, 0", x, 3, -1, -9, 3, 3, 999, 1);
    }

    @Edge(at = "Terms 2", says = "in each TICK, behind the ACT, HEIGHT is G more if the ENGINE gives in it")
    private static void terms2EngineGivesBehindTheAct() {
        DeadStick x = line(2);
        Due.is("scene", x.scene(1, 1, 0, 1), 0);
        // 2 less is 0, 1 more is 1: not DOWN; then 0
        flight("at HEIGHT 0 behind the ACT", x, 0, 0, -9, 2, 2, 999, 1);
        x.craft(3, 1);
        flight("0 at least, then 1 more", x, 0, 0, -9, 2, 2, 999, 1);
        x.craft(3, 0);
        flight("DOWN ahead of the first ACT", x, 0, 0, -9, 0, 0, 999, 1);
    }

    @Edge(at = "Terms 2", says = "(99 at most)")
    private static void terms2HeightIs99AtMost() {
        DeadStick x = line(99);
        Due.is("9 in the first TICK", x.scene(1, 9, 0, 1), 0);
        // from 92 to 90 and 99, then 97 at cell 2; from 91 to 98, then 96
        Due.lay(x, 0, 0, 0, 96, 0, 0, 0, 0, 0);
        int[][] over96 = {{91, 1}, {92, 0}, {93, 0}, {99, 0}};
        for (int[] o : over96) {
            x.craft(3, o[0]);
            Due.is("from " + o[0] + " DOWN on 96", x.flown(0, 0, 4), o[1]);
        }
        Due.lay(x, 0, 0, 0, 97, 0, 0, 0, 0, 0);
        int[][] over97 = {{92, 1}, {93, 1}, {99, 1}};
        for (int[] o : over97) {
            x.craft(3, o[0]);
            Due.is("from " + o[0] + " DOWN on 97", x.flown(0, 0, 4), o[1]);
        }
    }

    @Edge(at = "Terms 2", says = "it ends where THE CRAFT is DOWN")
    private static void terms2FlownEndsWhereDown() {
        DeadStick x = line(60);
        Due.lay(x, 0, 0, 0, 0, 54, 0, 0, 0, 0);
        x.end(1, 3, 1, 1, 5);
        flight("at GROUND 54 with 54", x, 0, -1, 0, 3, 3, 5, 1);
        x.craft(3, 59);
        flight("below GROUND", x, 0, -1, 0, 3, 3, 5, 1);
        x.craft(3, 61);
        flight("one above GROUND", x, 0, -1, -9, 7, 7, 999, 0);
        Due.lay(x, 0, 61, 0, 0, 54, 0, 0, 0, 0);
        x.end(1, 0, 1, 1, 6);
        flight("DOWN now", x, 0, -1, 1, 0, 0, 6, 1);
    }

    @Edge(at = "Terms 2", says = "or as straight flight MAY not BE (it has LEFT: no END, COST 999)")
    private static void terms2FlownHasLeft() {
        DeadStick x = line(60);
        Due.lay(x, 1, 0, 0, 0, 0, 0, 0, 0, 99);
        x.end(1, 7, 0, 2, 5);
        flight("at the border: no END, no HOUSES", x, 0, -1, -9, 7, 7, 999, 0);
        x.craft(3, 14);
        flight("DOWN at the border: an END, HOUSES", x, 0, -1, 0, 7, 7, 104, 1);
        x.craft(3, 15);
        flight("one above it", x, 0, -1, -9, 7, 7, 999, 0);
        x.craft(0, 7);
        flight("it has LEFT at once", x, 0, -1, -9, 7, 0, 999, 0);
        x.craft(0, 0);
        Due.is("faster in the end", Due.plan(x, 4, 4, 4, 4, 4, 5), 1);
        x.craft(3, 60);
        flight("faster by two cells to the border", x, 1, -1, -9, 7, 6, 999, 0);
        Due.is("faster one too late", Due.plan(x, 4, 4, 4, 4, 4, 4, 5), 2);
        flight("even in its place", x, 2, -1, -9, 7, 7, 999, 0);
    }

    @Edge(at = "Terms 2", says = "DOWN at a cell it costs COST of the END (999 without) and HOUSES there.")
    private static void terms2FlownCosts() {
        DeadStick x = line(2);
        flight("without END, no HOUSES", x, 0, -1, -9, 1, 1, 999, 1);
        Due.lay(x, 1, 50, 99, 0, 0, 0, 0, 0, 0);
        flight("without END, HOUSES", x, 0, -1, -9, 1, 1, 1098, 1);
        x.end(1, 1, 0, 0, 0);
        flight("an END for another SPEED", x, 0, -1, -9, 1, 1, 1098, 1);
        x.end(1, 1, 1, 1, 0);
        flight("COST 0 and HOUSES", x, 0, -1, 1, 1, 1, 99, 1);
        Due.lay(x, 1, 50, 0, 0, 0, 0, 0, 0, 0);
        flight("COST 0, no HOUSES", x, 0, -1, 1, 1, 1, 0, 1);
        DeadStick y = line(2);
        Due.lay(y, 1, 50, 99, 0, 0, 0, 0, 0, 0);
        y.end(1, 1, 1, 1, 999);
        flight("COST 999 and HOUSES", y, 0, -1, 0, 1, 1, 1098, 1);
        y.craft(3, 0);
        flight("DOWN now: HOUSES of its own cell", y, 0, -1, -9, 0, 0, 1049, 1);
    }

    @Edge(at = "Terms 2", says = "ODDS of an END by a PLAN: WEIGHTS of SCENES in which it comes to it, by all WEIGHTS.")
    private static void terms2OddsNoneToAll() {
        DeadStick x = line(10);
        x.end(1, 5, 0, 2, 0);
        x.end(1, 6, 0, 2, 0);
        x.end(1, 5, 0, 2, 0);
        Due.is("scene: DOWN at 5", x.scene(99, 0, 0, 0), 0);
        int[][] all = {{1, 1}, {0, 1}, {0, 1}};
        int[][] some = {{99, 100}, {1, 100}, {0, 1}};
        for (int end = 0; end < 3; end++) {
            for (int part = 0; part < 2; part++) Due.is("of one", x.odds(0, end, part), all[end][part]);
        }
        Due.is("scene: DOWN at 6", x.scene(1, 2, 0, 1), 1);
        for (int end = 0; end < 3; end++) {
            for (int part = 0; part < 2; part++) Due.is("of two", x.odds(0, end, part), some[end][part]);
        }
        for (int i = 2; i < 5; i++) Due.is("scene: LEFT", x.scene(99, 9, 0, 20), i);
        Due.is("99 of 397", x.odds(0, 0, 0), 99);
        Due.is("99 of 397", x.odds(0, 0, 1), 397);
        Due.is("1 of 397", x.odds(0, 1, 1), 397);
    }

    @Edge(at = "Terms 2", says = "MEAN: sum of WEIGHTS times what it costs in each SCENE, by all WEIGHTS.")
    private static void terms2MeanLeastToMost() {
        DeadStick x = line(10);
        x.end(1, 5, 0, 2, 0);
        for (int i = 0; i < 5; i++) x.scene(99, 0, 0, 0);
        Due.is("0", x.mean(0, 0), 0);
        Due.is("of 0 it is 1", x.mean(0, 1), 1);
        x.craft(3, 8);
        int[] houses = {0, 0, 0, 0, 99, 0, 0, 0};
        Due.lay(x, 1, houses);
        Due.is("495 times 999 and 99", x.mean(0, 0), 1098);
        Due.is("by 495", x.mean(0, 1), 1);
        DeadStick y = line(10);
        y.end(1, 5, 0, 2, 998);
        y.scene(1, 0, 0, 0);
        for (int i = 1; i < 5; i++) y.scene(99, 9, 0, 20);
        Due.is("998 and 396 times 999", y.mean(0, 0), 998 + 396 * 999);
        Due.is("by 397", y.mean(0, 1), 397);
    }

    @Edge(at = "Terms 2", says = "BEST PLAN: the least MEAN (exactly), of several the first.")
    private static void terms2BestPlanExactly() {
        DeadStick x = line(10);
        int[][] ends = {{5, 500}, {6, 501}, {3, 500}, {4, 500}};
        for (int[] e : ends) x.end(1, e[0], 0, 2, e[1]);
        for (int i = 0; i < 4; i++) x.scene(99, 0, 0, 0);
        Due.is("slower: DOWN at 3", Due.plan(x, 3), 1);
        Due.is("as much: the first", x.bestPlan(), 0);
        // 2 in the first TICK: PLAN 0 comes to 6 then, PLAN 1 to 4
        x.scene(1, 2, 0, 1);
        Due.is("500 and 1 of 397", x.mean(0, 0), 500 * 397 + 1);
        Due.is("500 and 1 of 397", x.mean(0, 1), 397);
        Due.is("500", x.mean(1, 0), 500);
        Due.is("less by 1 of 397", x.bestPlan(), 1);
        Due.is("slower, too", Due.plan(x, 3, 4), 2);
        Due.is("as much: the first of these", x.bestPlan(), 1);
        Due.is("straight, too", Due.plan(x, 4), 3);
        Due.is("more", x.bestPlan(), 1);
    }

    @Edge(at = "Terms 2", says = "(Without SCENES: none.)")
    private static void terms2BestPlanWithoutScenes() {
        DeadStick x = line(10);
        Due.is("none", x.bestPlan(), NONE);
        x.scene(1, 0, 0, 0);
        Due.is("one", x.bestPlan(), 0);
    }

    // ---- promises 16 to 18

    @Edge(at = "Promise 16", says = "BAD: no such SHEET;")
    private static void promise16NoSuchSheet() {
        DeadStick x = new DeadStick();
        for (int sheet = 0; sheet <= 3; sheet++) {
            Due.fill(x, sheet, 1, sheet);
            Due.is("plan", x.plan(sheet), sheet);
            Due.is("its ACT", x.planOf(sheet, 0), sheet);
        }
        Due.beyond("plan", x::plan, 0, 3, BAD);
        Due.beyond("plan of an empty object", v -> new DeadStick().plan(v), 0, 3, BAD);
    }

    @Edge(at = "Promise 16", says = "-13; -11;")
    private static void promise16AnotherKindOrNothing() {
        DeadStick x = new DeadStick();
        Due.is("missing at first", x.plan(0), NOTHING);
        for (int sort = 0; sort <= 4; sort++) {
            x.sheet(0, sort, 1);
            Due.is("of sort " + sort, x.plan(0), sort == 1 ? 0 : KIND);
        }
        x.sheet(0, -1, 0);
        Due.is("missing again", x.plan(0), NOTHING);
    }

    @Edge(at = "Promise 16", says = "STATE: more than 20 numbers")
    private static void promise16MoreThan20Numbers() {
        DeadStick x = new DeadStick();
        int[] many = {21, 22, 63, 64};
        for (int n : many) {
            x.sheet(0, 1, n);
            Due.is(n + " numbers", x.plan(0), STATE);
        }
        x.sheet(0, 1, 20);
        Due.is("20 numbers", x.plan(0), 0);
        x.sheet(0, 1, 0);
        Due.is("no numbers", x.plan(0), 1);
    }

    @Edge(at = "Promise 16", says = "or one that is no ACT")
    private static void promise16OneThatIsNoAct() {
        DeadStick x = new DeadStick();
        for (int place = 0; place < 20; place += 19) {
            x.sheet(0, 1, 20);
            for (int bad : new int[] {-1, 9, 32767, -32768, 256, 260}) {
                x.put(0, place, bad);
                Due.is(bad + " at " + place, x.plan(0), STATE);
            }
            for (int good : new int[] {0, 8}) {
                x.put(0, place, good);
                Due.is(good + " at " + place, x.plan(0), place / 19 * 2 + good / 8);
            }
        }
        Due.is("four came", x.many(2), 4);
    }

    @Edge(at = "Promise 16", says = "-13; -11; STATE: more than 20 numbers, or one that is no ACT; FULL.")
    private static void promise16TheFirstNamed() {
        DeadStick x = new DeadStick();
        x.sheet(1, 2, 21);
        Due.is("21 ints", x.plan(1), KIND);
        Due.fill(x, 1, 0, 9);
        Due.is("a byte that is no ACT", x.plan(1), KIND);
        for (int i = 0; i < 4; i++) Due.is("plan", Due.plan(x, 4), i);
        Due.is("the fifth", Due.plan(x, 4), FULL);
        Due.is("the fifth, no ACT", Due.plan(x, 9), STATE);
        Due.is("the fifth, 21 numbers", Due.plan(x, new int[21]), STATE);
        Due.is("the fifth, bytes", x.plan(1), KIND);
        Due.is("the fifth, missing", x.plan(0), NOTHING);
        Due.is("the fifth, no such SHEET", x.plan(4), BAD);
        Due.is("four", x.many(2), 4);
    }

    @Edge(at = "Promise 17", says = "how many ACTS (i -1), its i-th ACT (NONE: not so many).")
    private static void promise17NotSoMany() {
        DeadStick x = new DeadStick();
        Due.is("plan", Due.plan(x, 8, 0, 3), 0);
        Due.is("plan", Due.plan(x), 1);
        int[] dues = {3, 8, 0, 3, NONE, NONE};
        for (int i = -1; i < 5; i++) Due.is("planOf " + i, x.planOf(0, i), dues[i + 1]);
        Due.is("far off", x.planOf(0, 20), NONE);
        Due.is("far off", x.planOf(0, 21), NONE);
        Due.is("far off", x.planOf(0, Integer.MAX_VALUE), NONE);
        Due.is("none", x.planOf(1, -1), 0);
        Due.is("none", x.planOf(1, 0), NONE);
        Due.is("plan", Due.plan(x, new int[20]), 2);
        Due.is("the twentieth", x.planOf(2, 19), 0);
        Due.is("behind the twentieth", x.planOf(2, 20), NONE);
    }

    @Edge(at = "Promise 17", says = "BAD: no such PLAN, i below -1.")
    private static void promise17NoSuchPlanOrBelow() {
        DeadStick x = new DeadStick();
        Due.is("no PLANS", x.planOf(0, -1), BAD);
        Due.plan(x, 8);
        Due.plan(x, 8);
        Due.beyond("plan", plan -> x.planOf(plan, 0), 0, 1, BAD);
        Due.beyond("plan", plan -> x.planOf(plan, -1), 0, 1, BAD);
        for (int i : new int[] {-2, -3, Integer.MIN_VALUE}) Due.is("i " + i, x.planOf(1, i), BAD);
        Due.is("no such PLAN, not so many", x.planOf(2, 1), BAD);
    }

    @Edge(at = "Promise 18", says = "A SCENE: its number. BAD;")
    private static void promise18NotAsTold() {
        DeadStick x = new DeadStick();
        Due.beyond("weight", v -> x.scene(v, 0, 0, 0), 1, 99, BAD);
        Due.beyond("gives", v -> x.scene(1, v, 0, 0), 0, 9, BAD);
        Due.beyond("from", v -> x.scene(1, 0, v, 0), 0, 20, BAD);
        Due.beyond("many", v -> x.scene(1, 0, 0, v), 0, 20, BAD);
        Due.is("none came", x.many(3), 0);
        Due.is("all at the least", x.scene(1, 0, 0, 0), 0);
        Due.is("all at the most", x.scene(99, 9, 20, 20), 1);
    }

    @Edge(at = "Promise 18", says = "BAD; FULL.")
    private static void promise18BadAheadOfFull() {
        DeadStick x = new DeadStick();
        for (int i = 0; i < 5; i++) Due.is("scene", x.scene(1, 0, 0, 0), i);
        Due.is("the sixth", x.scene(1, 0, 0, 0), FULL);
        int[][] bad = {{0, 0, 0, 0}, {100, 0, 0, 0}, {1, 10, 0, 0}, {1, 0, 21, 0}, {1, 0, 0, 21}, {1, 0, 0, -1}};
        for (int[] b : bad) Due.is("the sixth, not as told", x.scene(b[0], b[1], b[2], b[3]), BAD);
        Due.is("five", x.many(3), 5);
    }

    // ---- promises 19 to 22

    @Edge(at = "Promise 19", says = "A PLAN FLOWN in a SCENE (-1: without ENGINE)")
    private static void promise19WithoutEngine() {
        DeadStick x = line(10);
        Due.is("no SCENES", x.flown(0, -1, 2), 5);
        x.scene(1, 2, 0, 1);
        x.scene(1, 2, 0, 2);
        Due.is("without", x.flown(0, -1, 2), 5);
        Due.is("in the first", x.flown(0, 0, 2), 6);
        Due.is("in the last", x.flown(0, 1, 2), 7);
    }

    @Edge(at = "Promise 19", says = "what = 0 the END to which it comes (-9: none)")
    private static void promise19ToNoEnd() {
        DeadStick x = line(10);
        Due.is("no ENDS", x.flown(0, -1, 0), -9);
        x.end(1, 4, 0, 2, 0);
        Due.is("no END there", x.flown(0, -1, 0), -9);
        x.end(1, 5, 0, 2, 0);
        Due.is("an END there", x.flown(0, -1, 0), 1);
        x.craft(3, 8);
        Due.is("the first END", x.flown(0, -1, 0), 0);
    }

    @Edge(at = "Promise 19", says = "3 what it costs, 4 1 if DOWN, else 0. BAD.")
    private static void promise19NoSuchPlanSceneOrWhat() {
        Due.is("no PLANS", new DeadStick().flown(0, -1, 0), BAD);
        DeadStick x = line(10);
        Due.is("plan", Due.plan(x, 4), 1);
        x.scene(1, 0, 0, 0);
        x.scene(1, 0, 0, 0);
        int[] dues = {-9, 5, 5, 999, 1};
        for (int plan = 0; plan < 2; plan++) {
            for (int scene = -1; scene < 2; scene++) {
                for (int what = 0; what < 5; what++) Due.is("flown", x.flown(plan, scene, what), dues[what]);
            }
        }
        Due.beyond("plan", v -> x.flown(v, -1, 1), 0, 1, BAD);
        Due.beyond("plan", v -> x.flown(v, 1, 1), 0, 1, BAD);
        Due.beyond("scene", v -> x.flown(0, v, 1), -1, 1, BAD);
        Due.beyond("what", v -> x.flown(0, -1, v), 0, 4, BAD);
        Due.beyond("what", v -> x.flown(1, 1, v), 0, 4, BAD);
    }

    @Edge(at = "Promise 20", says = "above (part 0), below the line (1). BAD;")
    private static void promise20NoSuchPlanEndOrPart() {
        DeadStick x = line(10);
        x.scene(1, 0, 0, 0);
        Due.is("no ENDS", x.odds(0, 0, 0), BAD);
        x.end(1, 5, 0, 2, 0);
        x.end(1, 5, 0, 2, 0);
        Due.is("plan", Due.plan(x, 4), 1);
        Due.is("the least of each", x.odds(0, 0, 0), 1);
        Due.is("the most of each", x.odds(1, 1, 1), 1);
        Due.beyond("plan", v -> x.odds(v, 0, 0), 0, 1, BAD);
        Due.beyond("end", v -> x.odds(0, v, 0), 0, 1, BAD);
        Due.beyond("part", v -> x.odds(0, 0, v), 0, 1, BAD);
        DeadStick y = new DeadStick();
        y.end(1, 0, 0, 2, 0);
        y.scene(1, 0, 0, 0);
        Due.is("no PLANS", y.odds(0, 0, 0), BAD);
    }

    @Edge(at = "Promise 20", says = "BAD; NONE: no SCENES.")
    private static void promise20NoScenes() {
        DeadStick x = line(10);
        x.end(1, 5, 0, 2, 0);
        Due.is("no SCENES", x.odds(0, 0, 0), NONE);
        Due.is("no SCENES", x.odds(0, 0, 1), NONE);
        Due.is("no SCENES, no such PLAN", x.odds(1, 0, 0), BAD);
        Due.is("no SCENES, no such END", x.odds(0, 1, 0), BAD);
        Due.is("no SCENES, no such part", x.odds(0, 0, 2), BAD);
        x.scene(1, 0, 0, 0);
        Due.is("one SCENE", x.odds(0, 0, 0), 1);
    }

    @Edge(at = "Promise 21", says = "MEAN of a PLAN likewise. BAD;")
    private static void promise21NoSuchPlanOrPart() {
        DeadStick x = line(10);
        x.scene(1, 0, 0, 0);
        Due.is("plan", Due.plan(x, 4), 1);
        Due.is("the least of each", x.mean(0, 0), 999);
        Due.is("the most of each", x.mean(1, 1), 1);
        Due.beyond("plan", v -> x.mean(v, 0), 0, 1, BAD);
        Due.beyond("part", v -> x.mean(0, v), 0, 1, BAD);
        DeadStick y = new DeadStick();
        y.scene(1, 0, 0, 0);
        Due.is("no PLANS", y.mean(0, 0), BAD);
    }

    @Edge(at = "Promise 21", says = "BAD; NONE.")
    private static void promise21NoScenes() {
        DeadStick x = line(10);
        Due.is("no SCENES", x.mean(0, 0), NONE);
        Due.is("no SCENES", x.mean(0, 1), NONE);
        Due.is("no SCENES, no such PLAN", x.mean(1, 0), BAD);
        Due.is("no SCENES, no such part", x.mean(0, 2), BAD);
        x.scene(1, 0, 0, 0);
        Due.is("one SCENE", x.mean(0, 0), 999);
    }

    @Edge(at = "Promise 22", says = "BEST PLAN. NONE: no PLANS, or no SCENES.")
    private static void promise22NoPlansOrNoScenes() {
        DeadStick x = new DeadStick();
        Due.is("neither", x.bestPlan(), NONE);
        x.scene(1, 0, 0, 0);
        Due.is("no PLANS", x.bestPlan(), NONE);
        Due.is("plan", Due.plan(x), 0);
        Due.is("both", x.bestPlan(), 0);
        Due.is("no SCENES", line(10).bestPlan(), NONE);
    }

    @Edge(at = "Promise 16", says = "A PLAN from a SHEET taken for shorts: its number.")
    private static void promise16TheSheetIsCopied() {
        DeadStick x = new DeadStick();
        Due.fill(x, 0, 1, 5, 3);
        Due.is("plan", x.plan(0), 0);
        x.put(0, 0, 7);
        Due.is("its ACT stays", x.planOf(0, 0), 5);
        Due.is("plan", x.plan(0), 1);
        Due.is("another ACT", x.planOf(1, 0), 7);
        Due.is("the sheet stays", x.item(0, 1, 1), 3);
    }
}
