/** Promises 48 and 49: what is kept, what comes again, and what doesn't. */
public final class KeptTest {
    public static void main(String[] args) {
        allThatIsKept();
        allThatIsNot();
        theLandsSides();
        theLatestStays();
        shelvesGoByNumber();
        Due.end();
    }

    private static DeadStick filled() {
        DeadStick x = new DeadStick();
        x.land(3, 2);
        Due.fill(x, 0, 0, 1, 2, 3, 4, 5, 6);
        x.lay(0, 0);
        Due.fill(x, 0, 0, 7, 8, 9, 10, 11, 12);
        x.lay(0, 1);
        x.fly(4);
        x.table(1, 5);
        x.table(8, 3);
        x.end(2, 2, 0, 2, 30);
        Due.plan(x, 4, 7);
        x.scene(4, 1, 2, 3);
        Due.read(x, "right if 1=1;");
        x.step(2, 3, 4);
        x.job(9);
        x.trial(true, 5, 0);
        return x;
    }

    private static void isAsFilled(DeadStick x) {
        int[] many = {6, 1, 1, 1, 1, 1, 1, 1};
        for (int i = 0; i < 8; i++) Due.is("many " + i, x.many(i), many[i]);
        for (int i = 0; i < 6; i++) {
            Due.is("ground", x.cellOf(i, 0), i + 1);
            Due.is("houses", x.cellOf(i, 1), i + 7);
        }
        int[] craft = {1, 1, 1, 58, 1};
        for (int i = 0; i < 5; i++) Due.is("craft " + i, x.craftOf(i), craft[i]);
        Due.is("table", x.table(1, 5), 5);
        Due.is("table", x.table(8, 3), 3);
        int[] end = {2, 2, 0, 2, 30};
        for (int i = 0; i < 5; i++) Due.is("end", x.endOf(0, i), end[i]);
        int[] plan = {2, 4, 7};
        for (int i = -1; i < 2; i++) Due.is("plan", x.planOf(0, i), plan[i + 1]);
        Due.is("hands", x.line(0, 0), 1);
        Due.is("hands", x.hand(), 7);
        Due.is("weight", x.odds(0, 0, 1), 1);
        Due.is("step", x.worth(1), 4);
        Due.is("job", x.shared(0), 9);
        Due.is("trial", x.fair(0, 5, true, 0), 1);
    }

    private static void spoil(DeadStick x) {
        x.craft(0, 0);
        x.craft(1, 3);
        x.craft(2, 0);
        x.craft(3, 9);
        x.table(1, 1);
        x.table(8, 0);
        x.sheet(0, 0, 6);
        x.lay(0, 0);
        x.lay(0, 1);
        x.end(1, 0, 0, 0, 0);
        Due.plan(x);
        x.scene(9, 9, 9, 9);
        Due.read(x, "left if 1=2; slower if 1=1;");
        x.step(1, 1, 1);
        x.job(50);
        x.trial(true, 60, -1);
    }

    private static void allThatIsKept() {
        DeadStick x = filled();
        Due.is("nothing is kept", x.again(), -3);
        Due.is("keep", x.keep(), 1);
        isAsFilled(x);
        for (int i = 0; i < 3; i++) {
            spoil(x);
            Due.is("spoilt", x.many(1), 2);
            Due.is("again", x.again(), 1);
            isAsFilled(x);
        }
    }

    private static void allThatIsNot() {
        DeadStick x = filled();
        x.shelf(0, 0, 0);
        x.keep();
        x.feed(0, 5);
        x.prove(0);
        Due.is("rows", x.many(8), 2);
        Due.fill(x, 2, 2, 6, 7);
        x.shelf(1, 2, 2);
        x.ask(0, 1, 5);
        int bodies = x.many(10);
        Due.is("again", x.again(), 1);
        Due.is("the tape", x.many(9), 5);
        Due.is("rows", x.many(8), 2);
        Due.is("sheets", x.item(2, 2, 1), 7);
        Due.is("shelves", x.taken(1, 12), 2);
        Due.is("the trace", x.many(10), bodies);
        Due.is("the trace", x.trace(0), 20);
    }

    private static void theLandsSides() {
        DeadStick x = new DeadStick();
        x.land(3, 2);
        x.keep();
        x.land(5, 7);
        Due.is("cells", x.many(0), 35);
        Due.is("again", x.again(), 1);
        Due.is("cells", x.many(0), 6);
        x.craft(0, 2);
        x.craft(1, 2);
        Due.is("two lines of three: one cell on to the south, and none further", x.fly(4), 58);
        Due.is("cell", x.craftOf(0), 5);
        Due.is("to the west alone", x.acts(), 64 + 128 + 256);
    }

    private static void theLatestStays() {
        DeadStick x = new DeadStick();
        x.job(1);
        x.keep();
        x.job(2);
        x.keep();
        x.job(3);
        Due.is("again", x.again(), 1);
        Due.is("the latest", x.many(6), 2);
        x.job(3);
        Due.is("again", x.again(), 1);
        Due.is("it stays", x.many(6), 2);
        Due.is("it stays", x.shared(0), 2);
        x.fly(4);
        Due.is("again", x.again(), 1);
        Due.is("tick", x.craftOf(4), 0);
    }

    private static void shelvesGoByNumber() {
        DeadStick x = new DeadStick();
        x.keep();
        x.end(1, 0, 0, 0, 5);
        x.scene(5, 0, 0, 0);
        x.shelf(0, 0, 0);
        x.shelf(1, 1, 0);
        Due.is("end", x.taken(0, 1), 0);
        Due.is("scene", x.taken(1, 6), 0);
        x.again();
        Due.is("there is no such one any more", x.taken(0, 1), -11);
        Due.is("there is no such one any more", x.taken(1, 6), -11);
        Due.is("nothing to ask", x.ask(0, 0, 1), 0);
        Due.is("nothing to ask", x.ask(1, 0, 1), 0);
        x.end(4, 0, 0, 0, 9);
        Due.is("another one of this number", x.taken(0, 4), 0);
        Due.is("another one of this number", x.ask(0, 0, 1), 10);
    }
}
