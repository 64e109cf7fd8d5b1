/** Promises 32 to 38: a book, work for two, trials. */
public final class WorkTest {
    private static final int BAD = -1, FULL = -2, NONE = -3;

    public static void main(String[] args) {
        promise32Step();
        promises33To34();
        promise34Ties();
        promise35Job();
        promise36Shared();
        promise37Trial();
        promise38Fair();
        Due.end();
    }

    private static void promise32Step() {
        DeadStick x = new DeadStick();
        int[][] bad = {{0, 1, 1}, {21, 1, 1}, {1, 0, 1}, {1, 100, 1}, {1, 1, 0}, {1, 1, 100}};
        for (int[] b : bad) Due.is("step", x.step(b[0], b[1], b[2]), BAD);
        for (int i = 0; i < 7; i++) Due.is("step", x.step(20, 99, 99), i);
        Due.is("the eighth", x.step(1, 1, 1), FULL);
        Due.is("bad first", x.step(0, 1, 1), BAD);
        Due.is("seven", x.many(5), 7);
        // done at 20, 40, 60, 80: four are done when they are due
        Due.is("as it stands", x.worth(0), 4 * 99);
        Due.is("best", x.worth(1), 4 * 99);
        for (int i = 0; i < 7; i++) Due.is("by numbers", x.order(i), i);
    }

    private static void promises33To34() {
        DeadStick x = new DeadStick();
        Due.is("worth", x.worth(-1), BAD);
        Due.is("worth", x.worth(2), BAD);
        Due.is("no steps", x.order(0), BAD);
        x.step(5, 4, 50);
        x.step(1, 1, 3);
        x.step(1, 2, 4);
        Due.is("none in time", x.worth(0), 0);
        Due.is("all but the one that can't be", x.worth(1), 7);
        int[] order = {1, 2, 0};
        for (int i = 0; i < 3; i++) Due.is("order", x.order(i), order[i]);
        Due.is("order", x.order(3), BAD);
        Due.is("order", x.order(-1), BAD);
        // the dear one is due at 3 and takes 3: it and a long one, or three small ones
        DeadStick y = new DeadStick();
        y.step(1, 1, 10);
        y.step(1, 2, 10);
        y.step(1, 3, 10);
        y.step(3, 3, 31);
        Due.is("three", y.worth(0), 30);
        Due.is("one", y.worth(1), 31);
        Due.is("first", y.order(0), 3);
        Due.is("then by numbers", y.order(1), 0);
        Due.is("then by numbers", y.order(2), 1);
        Due.is("then by numbers", y.order(3), 2);
    }

    private static void promise34Ties() {
        DeadStick x = new DeadStick();
        x.step(3, 3, 1);
        x.step(1, 4, 1);
        Due.is("both", x.worth(1), 2);
        Due.is("only in this order", x.order(0), 0);
        DeadStick y = new DeadStick();
        y.step(1, 4, 1);
        y.step(3, 3, 1);
        Due.is("one", y.worth(0), 1);
        Due.is("both", y.worth(1), 2);
        Due.is("only in this order", y.order(0), 1);
        DeadStick z = new DeadStick();
        z.step(2, 2, 5);
        z.step(2, 2, 5);
        z.step(9, 1, 99);
        Due.is("either", z.worth(1), 5);
        int[] order = {0, 1, 2};
        for (int i = 0; i < 3; i++) Due.is("the first as a row", z.order(i), order[i]);
        // 2 last or between, all count: the row 0 1 2 is first; due at its very end counts
        DeadStick w = new DeadStick();
        w.step(1, 9, 1);
        w.step(2, 9, 1);
        w.step(3, 6, 1);
        Due.is("done when due", w.worth(0), 3);
        for (int i = 0; i < 3; i++) Due.is("the first as a row", w.order(i), i);
    }

    private static void promise35Job() {
        DeadStick x = new DeadStick();
        Due.is("job", x.job(0), BAD);
        Due.is("job", x.job(51), BAD);
        for (int i = 0; i < 8; i++) Due.is("job", x.job(i == 0 ? 1 : 50), i);
        Due.is("the ninth", x.job(1), FULL);
        Due.is("bad first", x.job(51), BAD);
        Due.is("eight", x.many(6), 8);
        Due.is("351 in all: 4 by 3", x.shared(0), 200);
        Due.is("1 and three others", x.shared(1), 1 + 2 + 4 + 8);
    }

    private static void promise36Shared() {
        DeadStick x = new DeadStick();
        Due.is("shared", x.shared(2), BAD);
        Due.is("shared", x.shared(-1), BAD);
        x.job(10);
        Due.is("one has all", x.shared(0), 10);
        Due.is("the least set", x.shared(1), 0);
        x.job(3);
        Due.is("one has the long one", x.shared(0), 10);
        Due.is("the least set", x.shared(1), 1);
        x.job(8);
        Due.is("10 and 11", x.shared(0), 11);
        Due.is("the least set", x.shared(1), 1);
        x.job(2);
        // 23 in all: 12 is 10 and 2 with 11 of the others
        Due.is("12 and 11", x.shared(0), 12);
        Due.is("3 and 8", x.shared(1), 6);
    }

    private static void promise37Trial() {
        DeadStick x = new DeadStick();
        Due.is("trial", x.trial(true, -1, 0), BAD);
        Due.is("trial", x.trial(true, 61, 0), BAD);
        Due.is("trial", x.trial(false, 0, -2), BAD);
        Due.is("trial", x.trial(false, 0, 8), BAD);
        for (int i = 0; i < 20; i++) Due.is("trial", x.trial(i % 2 == 0, 3 * i, i % 9 - 1), i);
        Due.is("the 21st", x.trial(true, 60, 7), FULL);
        Due.is("bad first", x.trial(true, 61, 7), BAD);
        Due.is("twenty", x.many(7), 20);
    }

    private static void promise38Fair() {
        DeadStick x = new DeadStick();
        Due.is("none", x.fair(0, 0, true, 0), NONE);
        Due.is("bad first", x.fair(-1, 0, true, 0), BAD);
        Due.is("bad first", x.fair(8, 0, true, 0), BAD);
        Due.is("bad first", x.fair(0, -1, true, 0), BAD);
        Due.is("bad first", x.fair(0, 61, true, 0), BAD);
        Due.is("bad first", x.fair(0, 0, true, 2), BAD);
        Due.is("bad first", x.fair(0, 0, true, -1), BAD);
        x.trial(true, 0, 2);
        x.trial(true, 10, 2);
        x.trial(true, 20, 3);
        x.trial(true, 60, -1);
        x.trial(false, 60, 7);
        Due.is("2 of 4", x.fair(2, 0, true, 0), 1);
        Due.is("2 of 4", x.fair(2, 0, true, 1), 2);
        Due.is("1 of 3 late by 10", x.fair(2, 10, true, 0), 1);
        Due.is("1 of 3 late by 10", x.fair(2, 10, true, 1), 3);
        Due.is("0 of 2 late by 11", x.fair(2, 11, true, 0), 0);
        Due.is("of 0 it is 1", x.fair(2, 11, true, 1), 1);
        Due.is("1 of 2", x.fair(3, 20, true, 1), 2);
        Due.is("others", x.fair(7, 60, false, 0), 1);
        Due.is("others", x.fair(7, 60, false, 1), 1);
        Due.is("others to another", x.fair(0, 0, false, 0), 0);
    }
}
