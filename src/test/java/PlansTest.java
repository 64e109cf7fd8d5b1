/** Promises 16 to 22: plans, scenes, what they come to. */
public final class PlansTest {
    private static final int BAD = -1, FULL = -2, NONE = -3, STATE = -4;

    public static void main(String[] args) {
        promise16Plan();
        promise17PlanOf();
        promise18Scene();
        promise19Flown();
        promise19Left();
        promise19TakenAsStraight();
        promise19EachAct();
        promise19Engine();
        promise19Down();
        promises20To21OddsMean();
        promise22BestPlan();
        Due.end();
    }

    private static void flight(String call, DeadStick x, int plan, int scene, int... due) {
        for (int i = 0; i < 5; i++) Due.is(call + ": flown " + i, x.flown(plan, scene, i), due[i]);
    }

    private static void promise16Plan() {
        DeadStick x = new DeadStick();
        Due.is("no such", x.plan(4), BAD);
        Due.is("no such", x.plan(-1), BAD);
        Due.is("missing", x.plan(0), -11);
        for (int sort = 0; sort < 5; sort++) {
            if (sort == 1) continue;
            x.sheet(0, sort, 1);
            Due.is("of sort " + sort, x.plan(0), -13);
        }
        x.sheet(0, 1, 21);
        Due.is("21", x.plan(0), STATE);
        Due.fill(x, 0, 1, 4, 9);
        Due.is("no act", x.plan(0), STATE);
        Due.fill(x, 0, 1, -1);
        Due.is("no act", x.plan(0), STATE);
        x.sheet(0, 1, 20);
        Due.is("20", x.plan(0), 0);
        x.sheet(0, 1, 0);
        Due.is("none", x.plan(0), 1);
        Due.fill(x, 0, 1, 8, 0);
        Due.is("plan", x.plan(0), 2);
        Due.is("plan", x.plan(0), 3);
        Due.is("the fifth", x.plan(0), FULL);
        Due.fill(x, 0, 1, 9);
        Due.is("state first", x.plan(0), STATE);
        x.sheet(0, 0, 1);
        Due.is("kind first", x.plan(0), -13);
        Due.is("four", x.many(2), 4);
    }

    private static void promise17PlanOf() {
        DeadStick x = new DeadStick();
        Due.is("planOf", x.planOf(0, -1), BAD);
        Due.is("plan", Due.plan(x, 8, 0, 3), 0);
        Due.is("plan", Due.plan(x), 1);
        x.put(3, 0, 5);
        int[] due = {3, 8, 0, 3, NONE, NONE};
        for (int i = 0; i < 6; i++) Due.is("planOf " + (i - 1), x.planOf(0, i - 1), due[i]);
        Due.is("far", x.planOf(0, Integer.MAX_VALUE), NONE);
        Due.is("below -1", x.planOf(0, -2), BAD);
        Due.is("empty", x.planOf(1, -1), 0);
        Due.is("empty", x.planOf(1, 0), NONE);
        Due.is("no such", x.planOf(2, 0), BAD);
        Due.is("no such", x.planOf(-1, 0), BAD);
        x.sheet(3, 1, 3);
        Due.is("the sheet is another thing", x.planOf(0, 0), 8);
    }

    private static void promise18Scene() {
        DeadStick x = new DeadStick();
        int[][] bad = {
            {0, 0, 0, 0}, {100, 0, 0, 0}, {1, -1, 0, 0}, {1, 10, 0, 0}, {1, 0, -1, 0}, {1, 0, 21, 0}, {1, 0, 0, -1},
            {1, 0, 0, 21},
        };
        for (int[] b : bad) Due.is("scene", x.scene(b[0], b[1], b[2], b[3]), BAD);
        Due.is("least", x.scene(1, 0, 0, 0), 0);
        Due.is("most", x.scene(99, 9, 20, 20), 1);
        for (int i = 2; i < 5; i++) Due.is("scene", x.scene(5, 5, 5, 5), i);
        Due.is("the sixth", x.scene(5, 5, 5, 5), FULL);
        Due.is("bad first", x.scene(0, 5, 5, 5), BAD);
        Due.is("five", x.many(3), 5);
    }

    /** 8 by 1 cells, HEIGHT 10, two less a tick: down at the fifth cell from the first. */
    private static DeadStick onALine() {
        DeadStick x = new DeadStick();
        x.land(8, 1);
        x.craft(3, 10);
        return x;
    }

    private static void promise19Flown() {
        DeadStick x = onALine();
        Due.is("plan", Due.plan(x), 0);
        Due.is("flown", x.flown(1, -1, 0), BAD);
        Due.is("flown", x.flown(-1, -1, 0), BAD);
        Due.is("flown", x.flown(0, 0, 0), BAD);
        Due.is("flown", x.flown(0, -2, 0), BAD);
        Due.is("flown", x.flown(0, -1, 5), BAD);
        Due.is("flown", x.flown(0, -1, -1), BAD);
        flight("straight", x, 0, -1, -9, 5, 5, 999, 1);
        x.sheet(0, 0, 8);
        x.put(0, 5, 4);
        x.lay(0, 1);
        flight("houses", x, 0, -1, -9, 5, 5, 1003, 1);
        x.end(1, 5, 0, 0, 1);
        x.end(1, 5, 1, 1, 30);
        x.end(1, 5, 0, 2, 2);
        flight("the first good end", x, 0, -1, 1, 5, 5, 34, 1);
        Due.is("plan", Due.plan(x, 4, 5, 3), 1);
        // 8 at 1, 3 at 3 (fast), 0 at 4 (even)
        flight("faster, slower", x, 1, -1, -9, 4, 3, 999, 1);
        Due.is("scene", x.scene(1, 2, 1, 3), 0);
        flight("2 in the second to fourth tick", x, 0, 0, -9, 7, 7, 999, 0);
        Due.is("now is as it was", x.craftOf(3), 10);
        Due.is("now is as it was", x.craftOf(4), 0);
    }

    private static void promise19Left() {
        DeadStick x = new DeadStick();
        x.land(3, 3);
        x.end(1, 2, 0, 2, 3);
        x.sheet(0, 0, 9);
        x.put(0, 2, 50);
        x.lay(0, 1);
        Due.is("plan", Due.plan(x), 0);
        flight("it has left: no end, no houses", x, 0, -1, -9, 2, 2, 999, 0);
        Due.is("plan", Due.plan(x, 4, 4, 4, 7), 1);
        flight("left ahead of the turn", x, 1, -1, -9, 2, 2, 999, 0);
        Due.is("plan", Due.plan(x, 4, 4, 7), 2);
        flight("a turn where straight may not be", x, 2, -1, -9, 8, 4, 999, 0);
    }

    private static void promise19TakenAsStraight() {
        DeadStick x = new DeadStick();
        x.land(4, 2);
        x.table(3, 9);
        // to the left is off the land all along: each is straight and costs neither TURN nor CHANGE
        Due.is("plan", Due.plan(x, 1, 0, 2, 7), 0);
        x.craft(3, 20);
        flight("straight for left, then right off the south", x, 0, -1, -9, 7, 4, 999, 0);
        x.craft(3, 17);
        Due.is("plan", Due.plan(x, 1, 1, 1, 4, 7), 1);
        flight("straight for left", x, 1, -1, -9, 3, 3, 999, 0);
        Due.is("plan", Due.plan(x, 1, 1, 7, 7), 2);
        // 15 at 1, 13 at 2, 2 at 6 to the south, 0 at 5 to the west
        flight("then right twice", x, 2, -1, -9, 5, 4, 999, 1);
        x.craft(2, 2);
        Due.is("plan", Due.plan(x, 5), 3);
        flight("faster than fast is straight", x, 3, -1, -9, 2, 1, 999, 0);
    }

    private static void promise19EachAct() {
        DeadStick x = new DeadStick();
        x.craft(0, 27);
        x.craft(3, 20);
        // 14 at 19 to the north, slow; then 11 at 11, 8 at 3, off
        Due.is("plan", Due.plan(x, 0), 0);
        flight("left and slower", x, 0, -1, -9, 3, 3, 999, 0);
        // 18 at 28, then straight, not left: 16 at 29, 14 at 30, 12 at 31, off
        Due.is("plan", Due.plan(x, 4), 1);
        flight("straight behind the plan", x, 1, -1, -9, 31, 4, 999, 0);
        // 13 at 43 to the south, fast; 9 at 59, off
        Due.is("plan", Due.plan(x, 8), 2);
        flight("right and faster", x, 2, -1, -9, 59, 2, 999, 0);
    }

    private static void promise19Engine() {
        DeadStick x = onALine();
        Due.is("plan", Due.plan(x), 0);
        Due.is("scene", x.scene(1, 9, 4, 1), 0);
        flight("at HEIGHT 0 it gives, behind the act", x, 0, 0, -9, 7, 7, 999, 0);
        Due.is("scene", x.scene(1, 9, 5, 20), 1);
        flight("too late", x, 0, 1, -9, 5, 5, 999, 1);
        Due.is("scene", x.scene(1, 1, 0, 20), 2);
        flight("one each", x, 0, 2, -9, 7, 7, 999, 0);
        Due.is("scene", x.scene(1, 2, 0, 1), 3);
        flight("in the first tick alone", x, 0, 3, -9, 6, 6, 999, 1);
        Due.is("scene", x.scene(1, 9, 0, 0), 4);
        flight("in none", x, 0, 4, -9, 5, 5, 999, 1);
        x.craft(3, 0);
        flight("down from the first", x, 0, 2, -9, 0, 0, 999, 1);
        // over ground 95 all round: capped at 99 it sinks by 2 from 99 behind 20 ticks
        DeadStick y = new DeadStick();
        y.sheet(0, 0, 64);
        for (int i = 0; i < 64; i++) y.put(0, i, 95);
        y.lay(0, 0);
        y.craft(3, 99);
        y.table(3, 0);
        y.table(1, 1);
        int[] round = new int[20];
        java.util.Arrays.fill(round, 7);
        round[0] = 4;
        Due.is("plan", Due.plan(y, round), 0);
        Due.is("scene", y.scene(1, 9, 0, 20), 0);
        // 1 to the east, then 19 turns to the right: it comes to 2 by 2 cells, behind them heading 1 + 19 is north
        for (int i = 0; i < 4; i++) Due.is("capped", y.flown(0, 0, i), new int[] {-9, 0, 20, 999}[i]);
        y.craft(0, 27);
        // behind 20 ticks at 27 to the north with 99: 98, 97, 96 to the border, where it has left
        for (int i = 0; i < 5; i++) Due.is("capped", y.flown(0, 0, i), new int[] {-9, 3, 23, 999, 0}[i]);
        y.table(5, 1);
        // with wind 1 of the north: 97, 95 is down; without the cap it would leave
        for (int i = 0; i < 5; i++) Due.is("capped", y.flown(0, 0, i), new int[] {-9, 11, 22, 999, 1}[i]);
    }

    private static void promise19Down() {
        DeadStick x = new DeadStick();
        x.craft(3, 0);
        x.end(2, 0, 1, 1, 77);
        Due.is("plan", Due.plan(x, 4), 0);
        flight("down now", x, 0, -1, 0, 0, 0, 77, 1);
        x.craft(2, 0);
        flight("down now, too slow for it", x, 0, -1, -9, 0, 0, 999, 1);
    }

    private static void promises20To21OddsMean() {
        DeadStick x = onALine();
        x.end(1, 5, 1, 1, 30);
        x.end(1, 7, 0, 2, 1);
        Due.is("plan", Due.plan(x), 0);
        Due.is("no scenes", x.odds(0, 0, 0), NONE);
        Due.is("no scenes", x.mean(0, 0), NONE);
        Due.is("bad first", x.odds(1, 0, 0), BAD);
        Due.is("bad first", x.odds(0, 2, 0), BAD);
        Due.is("bad first", x.odds(0, -1, 0), BAD);
        Due.is("bad first", x.odds(0, 0, 2), BAD);
        Due.is("bad first", x.odds(0, 0, -1), BAD);
        Due.is("bad first", x.mean(1, 0), BAD);
        Due.is("bad first", x.mean(0, 2), BAD);
        Due.is("bad first", x.mean(0, -1), BAD);
        x.scene(1, 2, 1, 3);
        x.scene(3, 9, 4, 1);
        Due.is("0", x.odds(0, 0, 0), 0);
        Due.is("of 0 it is 1", x.odds(0, 0, 1), 1);
        Due.is("999 always", x.mean(0, 0), 999);
        Due.is("of 1", x.mean(0, 1), 1);
        x.scene(2, 9, 5, 20);
        Due.is("2 of 6", x.odds(0, 0, 0), 1);
        Due.is("2 of 6", x.odds(0, 0, 1), 3);
        Due.is("left is no end", x.odds(0, 1, 0), 0);
        DeadStick y = onALine();
        y.end(1, 5, 1, 1, 30);
        Due.is("plan", Due.plan(y), 0);
        y.scene(4, 0, 0, 0);
        y.scene(6, 9, 0, 20);
        Due.is("the first scene of two", y.odds(0, 0, 0), 2);
        Due.is("the first scene of two", y.odds(0, 0, 1), 5);
        y.scene(10, 9, 9, 20);
        Due.is("the first and the last", y.odds(0, 0, 0), 7);
        Due.is("the first and the last", y.odds(0, 0, 1), 10);
        Due.is("4 times 999, twice 30, by 6", x.mean(0, 0), 676);
        Due.is("4 times 999, twice 30, by 6", x.mean(0, 1), 1);
        x.sheet(0, 0, 8);
        x.put(0, 5, 1);
        x.put(0, 7, 50);
        x.lay(0, 1);
        Due.is("4 times 999, twice 31, by 6", x.mean(0, 0), 2029);
        Due.is("4 times 999, twice 31, by 6", x.mean(0, 1), 3);
    }

    private static void promise22BestPlan() {
        DeadStick x = onALine();
        Due.is("no plans", x.bestPlan(), NONE);
        x.end(1, 5, 1, 1, 500);
        x.end(1, 4, 0, 2, 499);
        x.end(1, 3, 0, 2, 500);
        Due.is("plan to 5", Due.plan(x), 0);
        Due.is("no scenes", x.bestPlan(), NONE);
        x.scene(2, 0, 0, 0);
        Due.is("the only one", x.bestPlan(), 0);
        Due.is("plan to 5", Due.plan(x, 4), 1);
        Due.is("of several the first", x.bestPlan(), 0);
        // 4 less by slower, then 3 each: 6 at 1, 3 at 2, 0 at 3
        Due.is("plan to 3", Due.plan(x, 3), 2);
        Due.is("of several the first", x.bestPlan(), 0);
        // 8 at 1, 3 at 3, 0 at 4
        Due.is("plan to 4", Due.plan(x, 4, 5, 3), 3);
        Due.is("one less", x.bestPlan(), 3);
        // with 9 from the first tick on all leave: 999 each
        x.scene(99, 9, 0, 20);
        Due.is("one less by 101", x.mean(3, 0), 2 * 499 + 99 * 999);
        Due.is("one less by 101", x.bestPlan(), 3);
        DeadStick y = new DeadStick();
        y.scene(1, 1, 1, 1);
        Due.is("scenes, no plans", y.bestPlan(), NONE);
    }
}
