/** Promises 10 to 15: ends, and which of them can be reached. */
public final class EndsTest {
    private static final int BAD = -1, FULL = -2, NONE = -3;

    public static void main(String[] args) {
        promise10End();
        promise11EndOf();
        promises12To15OnALine();
        promise12Round();
        promise12Hill();
        promise12Down();
        promise12EachAct();
        promise12Tables();
        promise13Far();
        promise15Best();
        Due.end();
    }

    private static void promise10End() {
        DeadStick x = new DeadStick();
        x.land(4, 2);
        int[][] bad = {
            {0, 0, 0, 0, 0}, {6, 0, 0, 0, 0}, {1, -1, 0, 0, 0}, {1, 8, 0, 0, 0}, {1, 0, -1, 0, 0}, {1, 0, 0, 3, 0},
            {1, 0, 3, 3, 0}, {1, 0, 1, 0, 0}, {1, 0, 2, 1, 0}, {1, 0, 0, 0, -1}, {1, 0, 0, 0, 1000},
        };
        for (int[] b : bad) Due.is("end", x.end(b[0], b[1], b[2], b[3], b[4]), BAD);
        Due.is("none came", x.many(1), 0);
        for (int i = 0; i < 8; i++) Due.is("end", x.end(1 + i % 5, 7 - i, i % 3, 2, 999 - i), i);
        Due.is("the ninth", x.end(1, 0, 0, 0, 0), FULL);
        Due.is("bad first", x.end(0, 0, 0, 0, 0), BAD);
        Due.is("eight", x.many(1), 8);
    }

    private static void promise11EndOf() {
        DeadStick x = new DeadStick();
        x.end(5, 63, 1, 2, 999);
        x.end(3, 9, 0, 1, 7);
        int[] first = {5, 63, 1, 2, 999};
        int[] second = {3, 9, 0, 1, 7};
        for (int i = 0; i < 5; i++) {
            Due.is("endOf", x.endOf(0, i), first[i]);
            Due.is("endOf", x.endOf(1, i), second[i]);
        }
        Due.is("endOf", x.endOf(2, 0), BAD);
        Due.is("endOf", x.endOf(-1, 0), BAD);
        Due.is("endOf", x.endOf(0, 5), BAD);
        Due.is("endOf", x.endOf(0, -1), BAD);
    }

    /** 4 by 1 cells, from the first to the east with HEIGHT 10: no way back. */
    private static void promises12To15OnALine() {
        DeadStick x = new DeadStick();
        x.land(4, 1);
        x.craft(3, 10);
        x.end(1, 2, 0, 2, 7);
        x.end(1, 2, 2, 2, 8);
        x.end(1, 2, 0, 0, 9);
        x.end(1, 0, 1, 1, 6);
        x.end(1, 0, 0, 0, 0);
        Due.is("two even ticks", x.spare(0), 6);
        Due.is("one fast tick", x.spare(1), 5);
        Due.is("even, then slower", x.spare(2), 4);
        Due.is("by no acts", x.spare(3), 10);
        Due.is("never slow here", x.spare(4), NONE);
        Due.is("no such", x.spare(5), BAD);
        Due.is("no such", x.spare(-1), BAD);
        int[] late = {2, 0, 1, 0, NONE, BAD};
        for (int i = 0; i < 6; i++) Due.is("late " + i, x.late(i), late[i]);
        Due.is("late", x.late(-1), BAD);
        Due.is("can", x.can(), 15);
        Due.is("the one without a cost can't be", x.bestEnd(), 3);
        Due.is("thought changes nothing", x.craftOf(4), 0);
        Due.is("thought changes nothing", x.craftOf(3), 10);
    }

    /** On 2 by 2 cells it comes back to its own cell by three turns. */
    private static void promise12Round() {
        DeadStick x = new DeadStick();
        x.land(2, 2);
        x.end(1, 0, 0, 0, 0);
        x.end(1, 2, 2, 2, 0);
        Due.is("slow at the first cell", x.spare(0), 60 - 2 - 4 - 4 - 6);
        Due.is("fast is never on 2 by 2", x.spare(1), NONE);
        Due.is("late", x.late(0), 1);
        Due.is("late", x.late(1), NONE);
        x.craft(3, 16);
        Due.is("just so", x.spare(0), 0);
        // 16 - 2 - 4 - 4 - 6 is 0: with less it comes at HEIGHT 0 or is DOWN one cell earlier
        x.craft(3, 11);
        Due.is("it comes with HEIGHT 0", x.spare(0), 0);
        x.craft(3, 10);
        Due.is("down ahead of it", x.spare(0), NONE);
    }

    private static void promise12Hill() {
        DeadStick x = new DeadStick();
        x.land(5, 1);
        Due.fill(x, 0, 0, 0, 90, 0, 10, 0);
        x.lay(0, 0);
        x.end(4, 1, 0, 2, 0);
        x.end(1, 2, 0, 2, 0);
        x.end(1, 3, 0, 2, 0);
        x.end(1, 4, 0, 2, 0);
        Due.is("at the hill it is down, 0 at least", x.spare(0), 0);
        Due.is("over the hill by two cells", x.spare(1), 60 - 5);
        Due.is("less ground", x.spare(2), 60 - 5 - 3 - 10);
        Due.is("behind it, fast twice", x.spare(3), 60 - 5 - 4);
        Due.is("one tick ends at the hill", x.late(1), 0);
        Due.is("on it", x.late(0), 1);
        Due.is("can", x.can(), 15);
    }

    private static void promise12Down() {
        DeadStick x = new DeadStick();
        x.end(1, 0, 1, 2, 5);
        x.end(1, 0, 0, 0, 1);
        x.end(1, 1, 0, 2, 1);
        x.craft(3, 0);
        Due.is("down where it is", x.spare(0), 0);
        Due.is("not slow", x.spare(1), NONE);
        Due.is("not there", x.spare(2), NONE);
        Due.is("late", x.late(0), 0);
        Due.is("late", x.late(2), NONE);
        Due.is("can", x.can(), 1);
        Due.is("bestEnd", x.bestEnd(), 0);
        x.craft(0, 9);
        Due.is("none", x.bestEnd(), NONE);
        Due.is("none", x.can(), 0);
    }

    /** A place that one ACT alone leads to best, and SPEEDS that none leads to. */
    private static void promise12EachAct() {
        DeadStick x = new DeadStick();
        x.land(2, 2);
        x.craft(0, 2);
        x.end(1, 0, 0, 0, 0);
        Due.is("left and slower at once", x.spare(0), 60 - 3 - 2 - 1);
        DeadStick y = new DeadStick();
        y.land(3, 3);
        y.craft(0, 3);
        y.craft(1, 2);
        y.end(1, 5, 2, 2, 0);
        Due.is("left and faster at once", y.spare(0), 60 - 4 - 2 - 1);
        y.craft(1, 0);
        Due.is("right and faster at once", y.spare(0), 60 - 4 - 2 - 1);
        DeadStick z = new DeadStick();
        z.land(4, 1);
        z.craft(2, 2);
        z.end(1, 1, 0, 0, 0);
        z.end(1, 1, 1, 1, 0);
        z.end(1, 1, 2, 2, 0);
        z.end(1, 0, 2, 2, 0);
        z.craft(3, 99);
        Due.is("not slow at once", z.spare(0), NONE);
        Due.is("slower to the next one", z.spare(1), 96);
        Due.is("fast goes by two", z.spare(2), NONE);
        Due.is("the most HEIGHT there is", z.spare(3), 99);
    }

    /** With TURN 9 and the south against it the way by the north is better, though longer. */
    private static void promise12Tables() {
        DeadStick x = new DeadStick();
        x.land(3, 3);
        x.craft(0, 3);
        x.table(4, 9);
        x.table(7, 5);
        x.end(1, 5, 1, 1, 0);
        x.end(1, 7, 1, 1, 0);
        Due.is("straight", x.spare(0), 56);
        Due.is("once to the south", x.spare(1), 60 - 2 - (2 + 5 + 2));
        x.table(6, 5);
        // to the east 2 + 5 each, one turn to the south 2 + 5 + 2
        Due.is("against the wind from both", x.spare(1), 60 - 7 - 9);
    }

    private static void promise13Far() {
        DeadStick x = new DeadStick();
        x.end(1, 7, 0, 2, 0);
        Due.is("at the border, astonished till there", x.late(0), 7);
        x.craft(3, 14);
        Due.is("with HEIGHT 0 at the seventh", x.late(0), 7);
        x.craft(3, 12);
        Due.is("down at the sixth; from the fifth by one fast tick", x.late(0), 5);
    }

    private static void promise15Best() {
        DeadStick x = new DeadStick();
        x.land(4, 1);
        Due.fill(x, 0, 0, 0, 30, 10, 0);
        x.lay(0, 1);
        Due.is("no ends", x.bestEnd(), NONE);
        x.end(1, 1, 0, 2, 5);
        Due.is("the only one", x.bestEnd(), 0);
        x.end(1, 2, 0, 2, 24);
        Due.is("34 and 35", x.bestEnd(), 1);
        x.end(1, 3, 0, 2, 34);
        Due.is("of several the first", x.bestEnd(), 1);
        x.end(1, 3, 0, 2, 33);
        Due.is("less", x.bestEnd(), 3);
        x.craft(3, 4);
        Due.is("all, the far ones with HEIGHT 0", x.can(), 15);
        x.craft(3, 2);
        Due.is("the far one can't be", x.bestEnd(), 1);
        Due.is("can", x.can(), 3);
    }
}
