import java.util.List;

/** Edges of promises 48 and 49: what is kept and what isn't, nothing kept, the latest kept, which stays. */
public final class KeptEdgesTest {
    private static final int BAD = -1, FULL = -2, NONE = -3, STATE = -4, NOTHING = -11;

    public static void main(String[] args) {
        Edges.run(KeptEdgesTest.class);
    }

    private static void alike(String call, List<Integer> got, List<Integer> want) {
        Due.is(call + ": seen", got.size(), want.size());
        for (int i = 0; i < want.size(); i++) Due.is(call + ": seen " + i, got.get(i), want.get(i));
    }

    /** One of each thing that is kept, and a flight of one TICK to cell 1. */
    private static DeadStick oneOfEach() {
        DeadStick x = new DeadStick();
        x.land(4, 1);
        Due.lay(x, 0, 1, 2, 3, 4);
        Due.lay(x, 1, 5, 6, 7, 8);
        x.table(3, 9);
        x.fly(4);
        x.end(2, 3, 0, 2, 30);
        Due.plan(x, 5, 3);
        x.scene(4, 1, 2, 3);
        Due.read(x, "slower if 1=1;");
        x.step(2, 3, 4);
        x.job(9);
        x.trial(true, 5, 0);
        return x;
    }

    private static void isOneOfEach(DeadStick x) {
        int[] many = {4, 1, 1, 1, 1, 1, 1, 1};
        for (int what = 0; what < 8; what++) Due.is("many " + what, x.many(what), many[what]);
        for (int cell = 0; cell < 4; cell++) {
            Due.is("GROUND", x.cellOf(cell, 0), 1 + cell);
            Due.is("HOUSES", x.cellOf(cell, 1), 5 + cell);
        }
        int[] craft = {1, 1, 1, 58, 1};
        for (int what = 0; what < 5; what++) Due.is("craft " + what, x.craftOf(what), craft[what]);
        Due.is("TURN", x.table(3, 9), 9);
        int[] end = {2, 3, 0, 2, 30};
        for (int what = 0; what < 5; what++) Due.is("endOf " + what, x.endOf(0, what), end[what]);
        int[] plan = {2, 5, 3, NONE};
        for (int i = -1; i < 3; i++) Due.is("planOf " + i, x.planOf(0, i), plan[i + 1]);
        Due.is("WEIGHT", x.odds(0, 0, 1), 1);
        Due.is("LINE", x.line(0, 0), 2);
        Due.is("WORTH", x.worth(0), 4);
        Due.is("JOB", x.shared(0), 9);
        Due.is("TRIAL", x.fair(0, 5, true, 0), 1);
    }

    // ---- promise 48

    @Edge(at = "Promise 48", says = "is kept: 1.")
    private static void promise48ANewObjectIsKept() {
        DeadStick x = new DeadStick();
        Due.is("keep", x.keep(), 1);
        x.land(1, 1);
        x.end(1, 0, 0, 2, 0);
        x.table(0, 9);
        Due.read(x, "left if 1=1;");
        x.fly(4);
        x.craft(3, 0);
        Due.plan(x);
        x.scene(1, 0, 0, 0);
        x.step(1, 1, 1);
        x.job(1);
        x.trial(true, 0, 0);
        // SHEET 3 isn't kept
        x.sheet(3, -1, 0);
        Due.is("again", x.again(), 1);
        DeadStick fresh = new DeadStick();
        fresh.keep();
        alike("as new", Filled.seen(x), Filled.seen(fresh));
    }

    @Edge(at = "Promise 48", says = "All but")
    private static void promise48AllIsKept() {
        DeadStick x = oneOfEach();
        isOneOfEach(x);
        Due.is("keep", x.keep(), 1);
        isOneOfEach(x);
        x.end(1, 0, 0, 0, 0);
        Due.plan(x);
        x.scene(9, 9, 9, 9);
        Due.read(x, "left if 1=2;faster if 1=1;");
        x.step(1, 1, 1);
        x.job(50);
        x.trial(true, 60, -1);
        Due.lay(x, 0, 0, 0, 0, 0);
        Due.lay(x, 1, 0, 0, 0, 0);
        int[] others = {2, 3, 0, 9};
        for (int what = 0; what < 4; what++) x.craft(what, others[what]);
        x.fly(4);
        x.table(3, 0);
        Due.is("again", x.again(), 1);
        isOneOfEach(x);
    }

    @Edge(at = "Promise 48", says = "All but")
    private static void promise48AllCellsAndTablesAreKept() {
        DeadStick x = new DeadStick();
        int[] cells = new int[64];
        for (int i = 0; i < 64; i++) cells[i] = 1 + i;
        Due.lay(x, 0, cells);
        for (int i = 0; i < 64; i++) cells[i] = 99 - i;
        Due.lay(x, 1, cells);
        int[] tables = {9, 8, 7, 6, 5, 1, 2, 3, 5};
        for (int what = 0; what < 9; what++) x.table(what, tables[what]);
        int[] craft = {63, 3, 2, 99};
        for (int what = 0; what < 4; what++) x.craft(what, craft[what]);
        x.keep();
        Due.lay(x, 0, new int[64]);
        Due.lay(x, 1, new int[64]);
        for (int what = 0; what < 9; what++) x.table(what, 1);
        for (int what = 0; what < 4; what++) x.craft(what, 1);
        Due.is("again", x.again(), 1);
        for (int i = 0; i < 64; i++) {
            Due.is("GROUND of " + i, x.cellOf(i, 0), 1 + i);
            Due.is("HOUSES of " + i, x.cellOf(i, 1), 99 - i);
        }
        for (int what = 0; what < 4; what++) Due.is("craft " + what, x.craft(what, 1), craft[what]);
        for (int what = 0; what < 9; what++) Due.is("table " + what, x.table(what, 1), tables[what]);
    }

    @Edge(at = "Promise 48", says = "All but THE TAPE, ROWS, SHEETS, SHELVES, THE TRACE is kept")
    private static void promise48FiveThingsAreNotKept() {
        DeadStick x = oneOfEach();
        Due.feed(x, "left");
        x.prove(0);
        Due.fill(x, 0, 2, 7);
        x.shelf(0, 0, 0);
        x.ask(0, 0, 5);
        Due.is("keep", x.keep(), 1);
        int[] atKeep = {1, 4, 2};
        for (int what = 8; what <= 10; what++) Due.is("keep takes nothing away: many " + what, x.many(what), atKeep[what - 8]);
        Due.feed(x, " if 1=1;");
        Due.plan(x);
        x.prove(1);
        x.alterRow(0, 1, 77);
        Due.fill(x, 0, 0, 8, 9);
        x.sheet(1, 4, 64);
        x.shelf(0, 1, 0);
        x.shelf(1, 2, 1);
        x.ask(0, 3, 5);
        Due.is("again", x.again(), 1);
        Due.is("THE TAPE stays", x.many(9), 12);
        Due.is("THE TAPE is read", x.read(), 1);
        Due.is("left", x.line(0, 0), 0);
        Due.is("ROWS stay", x.many(8), 2);
        Due.is("ROWS stay", x.row(0, 1), 77);
        Due.is("SHEETS stay", x.item(0, 0, 1), 9);
        Due.is("SHEETS stay", x.item(1, 4, 63), 0);
        Due.is("SHELVES stay", x.taken(0, 6), 0);
        Due.is("SHELVES stay", x.taken(1, 14), 64);
        Due.is("THE TRACE stays", x.many(10), 4);
        int[] trace = {73, 71, 70, 72, NONE};
        for (int i = 0; i < 5; i++) Due.is("THE TRACE stays", x.trace(i), trace[i]);
    }

    @Edge(at = "Promise 48", says = "ROWS,")
    private static void promise48RowsOfAPlanThatIsNoMore() {
        DeadStick x = new DeadStick();
        x.land(4, 1);
        x.keep();
        Due.plan(x);
        Due.is("prove", x.prove(0), 3);
        x.again();
        Due.is("no PLAN", x.many(2), 0);
        Due.is("ROWS", x.many(8), 3);
        Due.is("they are right still", x.judge(), 0);
        x.craft(0, 1);
        Due.is("from another cell", x.judge(), 3);
    }

    @Edge(at = "Promise 48", says = "SHELVES,")
    private static void promise48ShelvesWithEndsThatAreNoMore() {
        DeadStick x = new DeadStick();
        x.keep();
        x.end(1, 0, 0, 2, 5);
        x.shelf(0, 0, 0);
        x.ask(0, 0, 1);
        Due.is("taken", x.taken(0, 1), 0);
        x.again();
        Due.is("nothing", x.taken(0, 1), NOTHING);
        Due.is("THE TRACE stays", x.trace(0), 10);
        Due.is("nothing to ask", x.ask(0, 0, 1), 0);
        x.end(2, 0, 0, 2, 5);
        Due.is("another END of this number", x.taken(0, 2), 0);
    }

    @Edge(at = "Promise 48", says = "kept: 1.")
    private static void promise48TheFullestIsKept() {
        DeadStick x = new DeadStick();
        for (int i = 0; i < 8; i++) x.end(1 + i % 5, 63 - i, i % 3, 2, 999 - i);
        int[] acts = new int[20];
        for (int i = 0; i < 20; i++) acts[i] = i % 9;
        for (int i = 0; i < 4; i++) Due.is("plan", Due.plan(x, acts), i);
        for (int i = 0; i < 5; i++) x.scene(99 - i, 9, 20, 20);
        Due.is("read", Due.read(x, "faster if height=60 and 1=1;".repeat(8) + "right if 1=1;"), 9);
        for (int i = 0; i < 7; i++) x.step(20, 99, 99 - i);
        for (int i = 0; i < 8; i++) x.job(50 - i);
        for (int i = 0; i < 20; i++) x.trial(true, 60, i == 19 ? 7 : 0);
        Due.is("keep", x.keep(), 1);
        Due.is("an empty TEXT", x.read(), 0);
        Due.is("again", x.again(), 1);
        int[] most = {64, 8, 4, 5, 9, 7, 8, 20};
        for (int what = 0; what < 8; what++) Due.is("many " + what, x.many(what), most[what]);
        Due.is("the last END", x.endOf(7, 4), 992);
        Due.is("the last ACT", x.planOf(3, 19), 1);
        Due.is("the last LINE", x.line(8, 0), 1);
        Due.is("its first LINE holds", x.line(0, 1), 1);
        Due.is("right and faster", x.hand(), 8);
        Due.is("the last TRIAL", x.fair(7, 60, true, 1), 20);
        Due.is("ENDS are FULL", x.end(1, 0, 0, 2, 0), FULL);
        Due.is("PLANS are FULL", Due.plan(x), FULL);
        Due.is("SCENES are FULL", x.scene(1, 0, 0, 0), FULL);
        Due.is("STEPS are FULL", x.step(1, 1, 1), FULL);
        Due.is("JOBS are FULL", x.job(1), FULL);
        Due.is("TRIALS are FULL", x.trial(true, 0, 0), FULL);
    }

    // ---- promise 49

    @Edge(at = "Promise 49", says = "NONE: nothing is kept.")
    private static void promise49NothingIsKept() {
        DeadStick x = new DeadStick();
        Due.is("a new object", x.again(), NONE);
        DeadStick y = oneOfEach();
        Due.is("one of each", y.again(), NONE);
        isOneOfEach(y);
        Due.is("keep", y.keep(), 1);
        Due.is("again", y.again(), 1);
        Due.is("and again", y.again(), 1);
        isOneOfEach(y);
    }

    @Edge(at = "Promise 49", says = "It becomes what was kept latest")
    private static void promise49TheLatest() {
        DeadStick x = new DeadStick();
        for (int i = 0; i < 3; i++) {
            x.job(1 + i);
            Due.is("keep", x.keep(), 1);
        }
        x.job(4);
        Due.is("again", x.again(), 1);
        Due.is("the latest of three", x.many(6), 3);
        // the latest may be less than what was kept ahead of it
        DeadStick y = new DeadStick();
        y.keep();
        y.job(1);
        y.again();
        y.keep();
        y.job(1);
        y.job(1);
        y.again();
        Due.is("none", y.many(6), 0);
        Due.is("the first one has none", y.shared(0), 0);
    }

    @Edge(at = "Promise 49", says = "It becomes what was kept latest")
    private static void promise49FewerStepsThanAhead() {
        DeadStick x = new DeadStick();
        for (int steps = 0; steps < 7; steps++) {
            // of those that are kept one alone can count, the last one is worth most; of the others all count
            int greatest = steps == 0 ? 0 : 19 + steps;
            x.keep();
            for (int i = steps; i < 7; i++) x.step(1, 99, 99);
            Due.is("seven", x.worth(1), greatest + 99 * (7 - steps));
            Due.is("again", x.again(), 1);
            Due.is("as many", x.many(5), steps);
            Due.is("the greatest of " + steps, x.worth(1), greatest);
            for (int i = 0; i < steps; i++) Due.is("order " + i + " of " + steps, x.order(i), i == 0 ? steps - 1 : i - 1);
            Due.is("there are not so many", x.order(steps), BAD);
            Due.is("step", x.step(10, 10, 20 + steps), steps);
        }
    }

    @Edge(at = "Promise 49", says = "(which stays)")
    private static void promise49WhatWasKeptStays() {
        DeadStick x = oneOfEach();
        x.keep();
        for (int i = 0; i < 3; i++) {
            Due.lay(x, 0, 9, 9, 9, 9);
            x.craft(3, 90);
            x.fly(4);
            x.table(3, 1);
            Due.read(x, "left if 1=1;right if 1=1;");
            x.job(1);
            Due.is("again", x.again(), 1);
            isOneOfEach(x);
        }
        // there is room behind what was kept, and what comes there is as new
        Due.is("the second END", x.end(1, 0, 0, 2, 0), 1);
        Due.is("the second PLAN", Due.plan(x, 8), 1);
        Due.is("its only ACT", x.planOf(1, 1), NONE);
    }

    @Edge(at = "Promise 49", says = "It becomes what was kept latest (which stays): 1.")
    private static void promise49TheLandAndTheTickToo() {
        DeadStick x = new DeadStick();
        x.table(1, 1);
        x.table(3, 0);
        x.craft(1, 0);
        for (int i = 0; i < 200; i++) {
            if (i % 50 == 0) x.craft(3, 60);
            if (i == 199) x.keep();
            x.fly(7);
        }
        Due.is("TICK", x.craftOf(4), 200);
        Due.is("no more", x.fly(7), STATE);
        x.end(1, 0, 0, 2, 0);
        Due.is("ENDS hinder", x.land(1, 1), STATE);
        Due.is("again", x.again(), 1);
        Due.is("TICK", x.craftOf(4), 199);
        Due.is("one more", x.fly(7) > 0 ? 1 : 0, 1);
        Due.is("TICK", x.craftOf(4), 200);
        Due.is("no more", x.fly(7), STATE);
        Due.is("no ENDS", x.land(2, 1), 1);
        Due.is("again", x.again(), 1);
        Due.is("8 by 8 cells", x.many(0), 64);
        Due.is("the last cell", x.cellOf(63, 0), 0);
    }
}
