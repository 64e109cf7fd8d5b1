/** Edges of what stands ahead of section 1 and for all calls: refusals and their order, fractions, quotients, ints. */
public final class TermsEdgesTest {
    private static final int BAD = -1, FULL = -2, NONE = -3, STATE = -4;
    private static final int NOTHING = -11, OUTSIDE = -12, KIND = -13, SIZE = -14, PARTED = -15;
    private static final int LEAST = Integer.MIN_VALUE, MOST = Integer.MAX_VALUE;

    public static void main(String[] args) {
        Edges.run(TermsEdgesTest.class);
    }

    // ---- refusals

    @Edge(at = "Terms", says = "Answers below 0, where not told otherwise, are refusals")
    private static void termsSomeAnswersBelow0AreNone() {
        DeadStick x = new DeadStick();
        x.land(4, 1);
        Due.plan(x);
        x.prove(0);
        for (int v : new int[] {BAD, FULL, NONE, STATE, -9, -15, LEAST}) {
            x.alterRow(0, 0, v);
            Due.is("what it was", x.alterRow(0, 0, 4), v);
            Due.is("it became 4 all the same", x.row(0, 0), 4);
            Due.fill(x, 0, 2, v);
            Due.is("item", x.item(0, 2, 0), v);
            x.scene(1, 0, 0, 0);
            x.shelf(0, 1, 0);
            Due.is("reaches: 1 less x", x.ask(0, 0, 1 - v), v);
            Due.is("it ran", x.trace(0), 70);
        }
    }

    @Edge(at = "Terms", says = "BAD (-1) there is no such thing, or a number is not as told; FULL (-2); NONE (-3); STATE (-4);")
    private static void termsTheFourRefusals() {
        Due.is("BAD", DeadStick.BAD, -1);
        Due.is("FULL", DeadStick.FULL, -2);
        Due.is("NONE", DeadStick.NONE, -3);
        Due.is("STATE", DeadStick.STATE, -4);
        DeadStick x = new DeadStick();
        Due.is("no such thing", x.endOf(0, 0), -1);
        Due.is("a number is not as told", x.craft(3, 100), -1);
        for (int i = 0; i < 8; i++) x.job(1);
        Due.is("full", x.job(1), -2);
        Due.is("none", x.bestEnd(), -3);
        x.craft(3, 0);
        Due.is("state", x.fly(4), -4);
    }

    @Edge(at = "Terms", says = "-11 nothing where something is asked, -12 a place outside, -13 a thing of another kind, -14 a size below 0, -15 parted by 0")
    private static void termsWhatTheHostRefuses() {
        DeadStick x = new DeadStick();
        Due.is("nothing", x.put(0, 0, 1), -11);
        Due.is("nothing on a SHELF", x.taken(0, 0), -11);
        x.sheet(0, 2, 1);
        Due.is("outside", x.put(0, 1, 1), -12);
        Due.is("outside", x.item(0, 2, -1), -12);
        Due.is("another kind", x.item(0, 1, 0), -13);
        Due.is("a size below 0", x.sheet(0, 2, -1), -14);
        x.end(1, 0, 0, 2, 0);
        x.shelf(0, 0, 0);
        Due.is("parted by 0", x.ask(0, 2, 5), -15);
    }

    @Edge(at = "Terms", says = "of several the first named, first as a call's own line names them")
    private static void termsOfSeveralTheFirstNamed() {
        DeadStick x = new DeadStick();
        x.sheet(1, 0, 5);
        Due.is("lay: BAD, -11", x.lay(0, 2), BAD);
        Due.is("lay: -13, STATE", layOfShorts(), KIND);
        Due.is("plan: BAD, -11", x.plan(4), BAD);
        Due.is("put: BAD, -11", x.put(4, 0, 0), BAD);
        Due.is("put: -11, -12", x.put(0, 64, 0), NOTHING);
        Due.is("item: BAD, -11, -12", x.item(0, 5, 64), BAD);
        Due.is("item: -11, -12", x.item(0, 2, 64), NOTHING);
        Due.is("item: -13, -12", x.item(1, 2, 64), KIND);
        Due.is("flies: BAD, -13, -12", x.flies(1, 64, 31), BAD);
        Due.is("flies: -13, -12", x.flies(1, 64, 30), KIND);
        Due.is("sheet: BAD, -14", x.sheet(0, 5, -1), BAD);
        Due.is("taken: BAD, -11", x.taken(0, 7), BAD);
        Due.is("spare: BAD, NONE", x.spare(0), BAD);
        Due.is("late: BAD, NONE", x.late(0), BAD);
        Due.is("planOf: BAD, NONE", x.planOf(0, 5), BAD);
        Due.is("odds: BAD, NONE", x.odds(0, 0, 0), BAD);
        Due.is("mean: BAD, NONE", x.mean(0, 0), BAD);
        Due.is("fair: BAD, NONE", x.fair(8, 0, true, 0), BAD);
        x.craft(3, 0);
        Due.is("fly: BAD, STATE", x.fly(9), BAD);
        x.craft(0, 63);
        Due.is("land: BAD, STATE", x.land(9, 1), BAD);
        for (int i = 0; i < 30; i++) x.feed(0, 8);
        Due.is("feed: BAD, FULL", x.feed(0, 9), BAD);
        for (int i = 0; i < 20; i++) {
            x.end(1, 0, 0, 2, 0);
            Due.plan(x);
            x.scene(1, 0, 0, 0);
            x.step(1, 1, 1);
            x.job(1);
            x.trial(true, 0, 0);
        }
        Due.is("end: BAD, FULL", x.end(0, 0, 0, 2, 0), BAD);
        Due.is("plan: STATE, FULL", Due.plan(x, 9), STATE);
        Due.is("scene: BAD, FULL", x.scene(0, 0, 0, 0), BAD);
        Due.is("step: BAD, FULL", x.step(0, 1, 1), BAD);
        Due.is("job: BAD, FULL", x.job(0), BAD);
        Due.is("trial: BAD, FULL", x.trial(true, 61, 0), BAD);
    }

    private static int layOfShorts() {
        DeadStick x = new DeadStick();
        Due.fill(x, 0, 1, 100);
        return x.lay(0, 0);
    }

    // ---- fractions and quotients

    private static DeadStick trials(int came, int others) {
        DeadStick x = new DeadStick();
        for (int i = 0; i < came + others; i++) x.trial(false, 0, i < came ? 3 : -1);
        return x;
    }

    @Edge(at = "Terms", says = "Fractions are told in lowest terms, by what is above the line and what is below it")
    private static void termsFractionsInLowestTerms() {
        int[][] fairs = {{1, 0, 1, 1}, {2, 0, 1, 1}, {1, 1, 1, 2}, {2, 2, 1, 2}, {12, 8, 3, 5}, {5, 15, 1, 4}, {7, 12, 7, 19}, {20, 0, 1, 1}};
        for (int[] f : fairs) {
            DeadStick x = trials(f[0], f[1]);
            Due.is(f[0] + " and " + f[1] + ": above", x.fair(3, 0, false, 0), f[2]);
            Due.is(f[0] + " and " + f[1] + ": below", x.fair(3, 0, false, 1), f[3]);
        }
        // DOWN now at an END of COST 6: MEAN is a whole number; ODDS all
        DeadStick x = new DeadStick();
        x.end(1, 0, 0, 2, 6);
        Due.plan(x);
        x.craft(3, 0);
        for (int i = 0; i < 4; i++) x.scene(99, 0, 0, 0);
        Due.is("mean", x.mean(0, 0), 6);
        Due.is("mean", x.mean(0, 1), 1);
        Due.is("odds", x.odds(0, 0, 0), 1);
        Due.is("odds", x.odds(0, 0, 1), 1);
        // two cells: DOWN at the next one, or LEFT by the ENGINE
        DeadStick y = new DeadStick();
        y.land(2, 1);
        y.craft(3, 1);
        y.end(1, 1, 0, 2, 99);
        Due.plan(y);
        y.scene(90, 0, 0, 0);
        y.scene(60, 9, 0, 1);
        Due.is("90 of 150", y.odds(0, 0, 0), 3);
        Due.is("90 of 150", y.odds(0, 0, 1), 5);
        // (90 * 99 + 60 * 999) / 150 = 459
        Due.is("mean", y.mean(0, 0), 459);
        Due.is("mean", y.mean(0, 1), 1);
        y.scene(30, 0, 0, 0);
        // (120 * 99 + 60 * 999) / 180 = 399
        Due.is("mean", y.mean(0, 0), 399);
        y.scene(11, 0, 0, 0);
        // 131 * 99 + 60 * 999 = 72909 of 191
        Due.is("mean", y.mean(0, 0), 72909);
        Due.is("mean", y.mean(0, 1), 191);
    }

    @Edge(at = "Terms", says = "(above 0; of 0 it is 1)")
    private static void termsBelowTheLineOf0Is1() {
        DeadStick x = trials(0, 20);
        Due.is("fair", x.fair(3, 0, false, 0), 0);
        Due.is("fair", x.fair(3, 0, false, 1), 1);
        DeadStick y = new DeadStick();
        y.end(1, 0, 0, 2, 0);
        y.end(1, 0, 0, 2, 0);
        Due.plan(y);
        y.craft(3, 0);
        y.scene(99, 0, 0, 0);
        y.scene(98, 0, 0, 0);
        Due.is("mean", y.mean(0, 0), 0);
        Due.is("mean", y.mean(0, 1), 1);
        Due.is("odds of another END", y.odds(0, 1, 0), 0);
        Due.is("odds of another END", y.odds(0, 1, 1), 1);
    }

    @Edge(at = "Terms", says = "Quotients are cut towards 0.")
    private static void termsQuotientsAreCutTowards0() {
        DeadStick x = new DeadStick();
        x.end(1, 0, 0, 2, 3);
        x.end(1, 0, 0, 2, 0);
        x.end(1, 0, 0, 2, 0);
        x.end(1, 0, 0, 2, 0);
        x.shelf(0, 0, 0);
        x.shelf(1, 0, 3);
        int[][] quotients = {{8, 2, -2}, {2, 0, 0}, {0, 0, 0}, {-2, 0, 0}, {-3, -1, 1}, {-8, -2, 2}, {9, 3, -3}};
        for (int[] q : quotients) {
            Due.is(q[0] + " by 3", x.ask(0, 2, q[0]), q[1]);
            Due.is(q[0] + " by -3", x.ask(1, 2, q[0]), q[2]);
        }
    }

    @Edge(at = "Terms 5", says = "with a number x (ints that wrap): 0 reaches, 1 costs, 2 bears, 3 tells.")
    private static void terms5IntsThatWrap() {
        DeadStick x = new DeadStick();
        x.end(5, 0, 0, 2, 999);
        x.end(5, 0, 0, 2, 0);
        x.scene(99, 0, 0, 0);
        x.shelf(0, 0, 0);
        x.shelf(1, 0, 1);
        x.shelf(2, 1, 0);
        for (int with : new int[] {LEAST, LEAST + 1, -1000, -1, 0, 1, 1 << 30, MOST - 1, MOST}) {
            int road = (with + 999) * 5;
            int reaches = road ^ 999;
            int costs = reaches * 2 - 3 + 999 * 5;
            Due.is("reaches of " + with, x.ask(0, 0, with), reaches);
            Due.is("costs of " + with, x.ask(0, 1, with), costs);
            Due.is("bears of " + with, x.ask(0, 2, with), with / 999);
            Due.is("tells of " + with, x.ask(0, 3, with), costs + 2 / 999);
            Due.is("the least int by -1 is itself", x.ask(1, 2, with), -with);
            Due.is("a SCENE's tells of " + with, x.ask(2, 3, with), 99 - with - (with & 99));
        }
    }

    @Edge(at = "What it is", says = "An object is used for at most 512 calls after it has been made;")
    private static void whatItIs512Calls() {
        DeadStick x = Filled.make();
        for (int i = 0; i < 512 - 150; i++) Due.is("late", x.late(i % 8) >= NONE ? 1 : 0, 1);
        DeadStick y = new DeadStick();
        for (int i = 0; i < 511; i++) Due.is("read", y.read(), 0);
        Due.is("the 512th call", y.craftOf(3), 60);
    }

    @Edge(at = "Terms 1", says = "SPEED one less, one more;")
    private static void terms1SpeedOneLessOneMore() {
        DeadStick x = new DeadStick();
        int[][] speeds = {{0, 5, 1}, {1, 5, 2}, {2, 3, 1}, {1, 3, 0}, {0, 4, 0}, {2, 4, 2}};
        for (int[] s : speeds) {
            x.craft(0, 24);
            x.craft(2, s[0]);
            Due.is("ACT MAY BE", x.fly(s[1]) >= 0 ? 1 : 0, 1);
            Due.is("SPEED behind " + s[1], x.craftOf(2), s[2]);
            x.craft(3, 60);
        }
    }

    @Edge(at = "Terms 1", says = "HEIGHT is less by SINK of SPEED, WIND of HEADING, TURN if it turned")
    private static void terms1HeightLessByTheNewSpeedAndHeading() {
        int[] tables = {1, 2, 4, 8, 9, 0, 1, 3, 5};
        // SPEED, ACT, what it takes: SINK and WIND are those behind the ACT
        int[][] takes = {
            {1, 4, 2 + 1}, {1, 3, 1 + 1 + 9}, {1, 5, 4 + 1 + 9}, {1, 1, 2 + 0 + 8}, {1, 7, 2 + 3 + 8},
            {1, 0, 1 + 0 + 8 + 9}, {1, 8, 4 + 3 + 8 + 9}, {0, 5, 2 + 1 + 9}, {2, 3, 2 + 1 + 9}, {0, 4, 1 + 1}, {2, 4, 4 + 1},
        };
        for (int[] t : takes) {
            DeadStick x = new DeadStick();
            for (int what = 0; what < 9; what++) x.table(what, tables[what]);
            x.craft(0, 27);
            x.craft(2, t[0]);
            Due.is("SPEED " + t[0] + ", ACT " + t[1], x.fly(t[1]), 60 - t[2]);
        }
    }

    @Edge(at = "Terms 3", says = "THE READER takes ROWS from now on")
    private static void terms3TheReaderTakesRowsFromNowOn() {
        DeadStick x = new DeadStick();
        x.land(8, 2);
        Due.plan(x);
        x.prove(0);
        Due.is("from where they were proved", x.judge(), 0);
        x.craft(0, 8);
        Due.is("from the second row of cells", x.judge(), 0);
        x.craft(0, 9);
        Due.is("the last MAY not BE", x.judge(), 7);
        x.craft(0, 0);
        x.fly(4);
        Due.is("a TICK later", x.judge(), 1);
        x.craft(0, 0);
        x.craft(3, 60);
        Due.is("TICK isn't looked at", x.judge(), 0);
        x.craft(2, 2);
        Due.is("fast", x.judge(), 1);
        Due.is("now is as it was", x.craftOf(0), 0);
    }

    @Edge(at = "Terms 3", says = "VALUE SIGN VALUE | \"(\" COND \")\" )")
    private static void terms3OneIsAComparisonOrInBrackets() {
        Object[][] texts = {
            {"left if 1=1;", 1}, {"left if (1=1);", 1}, {"left if ();", -109}, {"left if (1=1 or 1=2);", 1}, {"left if 1;", -109},
            {"left if (1)=1;", -110}, {"left if height;", -114}, {"left if (height=1)=1;", -118}, {"left if (1=1", -112},
            {"left if 1=1);", -111},
        };
        for (Object[] t : texts) Due.is((String) t[0], Due.read(new DeadStick(), (String) t[0]), (Integer) t[1]);
    }
}
