/** Edges of section 4 and of promises 32 to 38: a book, work for two, trials. */
public final class WorkEdgesTest {
    private static final int BAD = -1, FULL = -2, NONE = -3;

    public static void main(String[] args) {
        Edges.run(WorkEdgesTest.class);
    }

    /** A BOOK: TAKES, DUE, WORTH of each STEP. */
    private static DeadStick book(int[]... steps) {
        DeadStick x = new DeadStick();
        for (int i = 0; i < steps.length; i++) Due.is("step", x.step(steps[i][0], steps[i][1], steps[i][2]), i);
        return x;
    }

    private static void worths(String call, DeadStick x, int asItStands, int greatest, int... order) {
        Due.is(call + ": as it stands", x.worth(0), asItStands);
        Due.is(call + ": in the order", x.worth(1), greatest);
        for (int i = 0; i < order.length; i++) Due.is(call + ": order " + i, x.order(i), order[i]);
        Due.is(call + ": no more", x.order(order.length), BAD);
    }

    private static DeadStick jobs(int... ticks) {
        DeadStick x = new DeadStick();
        for (int i = 0; i < ticks.length; i++) Due.is("job", x.job(ticks[i]), i);
        return x;
    }

    private static void shared(String call, DeadStick x, int done, int set) {
        Due.is(call + ": done", x.shared(0), done);
        Due.is(call + ": set", x.shared(1), set);
    }

    private static void fair(String call, DeadStick x, int end, int n, boolean told, int above, int below) {
        Due.is(call + ": above", x.fair(end, n, told, 0), above);
        Due.is(call + ": below", x.fair(end, n, told, 1), below);
    }

    // ---- section 4: a book

    @Edge(at = "Terms 4", says = "STEPS of a BOOK, 7 at most, numbered as they come")
    private static void terms4StepsAre7AtMost() {
        DeadStick x = new DeadStick();
        for (int i = 0; i < 7; i++) {
            Due.is("many", x.many(5), i);
            Due.is("step", x.step(1, 99, 1), i);
        }
        Due.is("the eighth", x.step(1, 99, 1), FULL);
        Due.is("many", x.many(5), 7);
        worths("seven", x, 7, 7, 0, 1, 2, 3, 4, 5, 6);
        worths("none", new DeadStick(), 0, 0);
    }

    @Edge(at = "Terms 4", says = "each TAKES 1 to 20 TICKS")
    private static void terms4Takes1To20() {
        DeadStick x = new DeadStick();
        Due.beyond("takes", v -> x.step(v, 1, 1), 1, 20, BAD);
        Due.is("none came", x.many(5), 0);
        worths("1 by 1", book(new int[] {1, 1, 5}), 5, 5, 0);
        worths("20 by 20", book(new int[] {20, 20, 5}), 5, 5, 0);
        worths("20 by 19", book(new int[] {20, 19, 5}), 0, 0, 0);
    }

    @Edge(at = "Terms 4", says = "is DUE (1 to 99)")
    private static void terms4Due1To99() {
        DeadStick x = new DeadStick();
        Due.beyond("due", v -> x.step(1, v, 1), 1, 99, BAD);
        Due.is("none came", x.many(5), 0);
        worths("the least is too early for two", book(new int[] {2, 1, 5}), 0, 0, 0);
        int[] long20 = {20, 99, 1};
        worths("99 by 99", book(long20, long20, long20, long20, new int[] {19, 99, 7}), 11, 11, 0, 1, 2, 3, 4);
        worths("100 by 99", book(long20, long20, long20, long20, new int[] {20, 99, 7}), 4, 10, 0, 1, 2, 4, 3);
    }

    @Edge(at = "Terms 4", says = "has a WORTH (1 to 99)")
    private static void terms4Worth1To99() {
        DeadStick x = new DeadStick();
        Due.beyond("worth", v -> x.step(1, 1, v), 1, 99, BAD);
        Due.is("none came", x.many(5), 0);
        worths("1 and 99", book(new int[] {1, 1, 1}, new int[] {1, 1, 99}), 1, 99, 1, 0);
        int[] dear = {1, 99, 99};
        worths("the most", book(dear, dear, dear, dear, dear, dear, dear), 693, 693, 0, 1, 2, 3, 4, 5, 6);
    }

    @Edge(at = "Terms 4", says = "one behind the other from 0 on, a STEP counts if it is done when it is DUE or earlier")
    private static void terms4CountsWhenDueOrEarlier() {
        int[] first = {3, 99, 1};
        int[][] seconds = {{4, 6, 0}, {4, 7, 10}, {4, 8, 10}, {1, 3, 0}, {1, 4, 10}};
        for (int[] s : seconds) {
            DeadStick x = book(first, new int[] {s[0], s[1], 10});
            Due.is("takes " + s[0] + " from 3 on, due " + s[1], x.worth(0), 1 + s[2]);
        }
        int[][] late = {{5, 4, 9}, {1, 5, 9}, {1, 7, 9}};
        worths("one too late is done all the same, and takes its TICKS", book(late), 9, 18, 1, 0, 2);
    }

    @Edge(at = "Terms 4", says = "In an order of all of them")
    private static void terms4AnOrderHasAllOfThem() {
        int[] never = {20, 1, 99};
        worths("none counts, all are there", book(never, never, never, never, never, never, never), 0, 0, 0, 1, 2, 3, 4, 5, 6);
        worths("one counts, and is first", book(never, never, new int[] {1, 1, 1}), 0, 1, 2, 0, 1);
    }

    @Edge(at = "Terms 4", says = "AS IT STANDS: the order by numbers.")
    private static void terms4AsItStands() {
        worths("the other way round", book(new int[] {2, 3, 4}, new int[] {1, 1, 5}), 4, 9, 1, 0);
        worths("as it stands", book(new int[] {1, 1, 5}, new int[] {2, 3, 4}), 9, 9, 0, 1);
        worths("nothing counts", book(new int[] {2, 1, 5}, new int[] {2, 1, 4}), 0, 0, 0, 1);
    }

    @Edge(at = "Terms 4", says = "THE ORDER: the greatest sum of WORTHS that count; of several the first as a row of numbers.")
    private static void terms4OfSeveralOrdersTheFirst() {
        int[] any = {1, 99, 1};
        worths("all as good", book(any, any, any), 3, 3, 0, 1, 2);
        worths("either of two", book(new int[] {2, 2, 5}, new int[] {2, 2, 5}), 5, 5, 0, 1);
        worths("one more for the second", book(new int[] {2, 2, 5}, new int[] {2, 2, 6}), 5, 6, 1, 0);
        worths("the last first, then by numbers", book(any, any, new int[] {1, 1, 1}), 2, 3, 2, 0, 1);
        worths("the last within the second", book(any, any, new int[] {1, 2, 1}), 2, 3, 0, 2, 1);
        worths("one that never counts stands where it may", book(new int[] {9, 8, 99}, new int[] {1, 10, 1}), 1, 1, 0, 1);
        worths("one that never counts stands behind", book(new int[] {9, 8, 99}, new int[] {1, 9, 1}), 0, 1, 1, 0);
        worths("only the last row", book(new int[] {1, 4, 1}, new int[] {1, 3, 1}, new int[] {1, 2, 1}, new int[] {1, 1, 1}), 2, 4, 3, 2, 1, 0);
    }

    // ---- section 4: work for two

    @Edge(at = "Terms 4", says = "JOBS, 8 at most, numbered as they come")
    private static void terms4JobsAre8AtMost() {
        DeadStick x = new DeadStick();
        shared("none", x, 0, 0);
        for (int i = 0; i < 8; i++) {
            Due.is("many", x.many(6), i);
            Due.is("job", x.job(i == 7 ? 50 : 1), i);
        }
        Due.is("the ninth", x.job(1), FULL);
        Due.is("many", x.many(6), 8);
        shared("the eighth is for the other one alone", x, 50, 127);
    }

    @Edge(at = "Terms 4", says = "TICKS 1 to 50 each.")
    private static void terms4JobsTake1To50() {
        DeadStick x = new DeadStick();
        Due.beyond("job", x::job, 1, 50, BAD);
        Due.is("none came", x.many(6), 0);
        shared("1", jobs(1), 1, 0);
        shared("50", jobs(50), 50, 0);
        shared("1 and 50", jobs(1, 50), 50, 1);
        shared("the most", jobs(50, 50, 50, 50, 50, 50, 50, 50), 200, 15);
    }

    @Edge(at = "Terms 4", says = "it is done when both are; the earliest; of several the least set as bits.")
    private static void terms4TheEarliestByTheLeastSet() {
        shared("the other has all", jobs(9), 9, 0);
        shared("as long", jobs(5, 5), 5, 1);
        shared("the first one has the first", jobs(7, 5), 7, 1);
        shared("the longest alone takes as long as any", jobs(9, 1, 1), 9, 1);
        shared("1, or 1 and 1, by one of them", jobs(1, 1, 9), 9, 3);
        shared("all but the last, by one more set", jobs(1, 9, 1), 9, 2);
        shared("3 and 4 by 2 and 5", jobs(2, 3, 4, 5), 7, 6);
        shared("not even", jobs(4, 4, 5), 8, 3);
    }

    @Edge(at = "Terms 4", says = "SHARED by two: the first one has a set of JOBS, the other the others;")
    private static void terms4TheFirstOneHasTheLesserSet() {
        shared("none for either", new DeadStick(), 0, 0);
        shared("one for the other", jobs(1), 1, 0);
        // a set and the one of the others take as long: the set without the last JOB is less
        shared("two", jobs(1, 1), 1, 1);
        shared("three for three", jobs(1, 1, 1, 1, 1, 1), 3, 7);
        shared("the longest is the last", jobs(1, 1, 1, 4), 4, 7);
        shared("the longest is the first", jobs(4, 1, 1, 1), 4, 1);
        shared("the last two for the other", jobs(10, 8, 9, 9), 18, 3);
    }

    // ---- section 4: trials

    @Edge(at = "Terms 4", says = "TRIALS, 20 at most, numbered as they come")
    private static void terms4TrialsAre20AtMost() {
        DeadStick x = new DeadStick();
        for (int i = 0; i < 20; i++) {
            Due.is("many", x.many(7), i);
            Due.is("trial", x.trial(true, 0, i < 19 ? 0 : 7), i);
        }
        Due.is("the 21st", x.trial(true, 0, 0), FULL);
        Due.is("many", x.many(7), 20);
        fair("19 of 20", x, 0, 0, true, 19, 20);
        fair("the last of 20", x, 7, 0, true, 1, 20);
    }

    @Edge(at = "Terms 4", says = ": TOLD or not")
    private static void terms4ToldOrNot() {
        DeadStick x = new DeadStick();
        Due.is("TOLD", x.trial(true, 0, 1), 0);
        Due.is("no others", x.fair(1, 0, false, 0), NONE);
        Due.is("not TOLD", x.trial(false, 0, 2), 1);
        fair("of TOLD ones", x, 1, 0, true, 1, 1);
        fair("of TOLD ones", x, 2, 0, true, 0, 1);
        fair("of others", x, 1, 0, false, 0, 1);
        fair("of others", x, 2, 0, false, 1, 1);
    }

    @Edge(at = "Terms 4", says = "LATE by so many TICKS (0 to 60)")
    private static void terms4LateBy0To60() {
        DeadStick x = new DeadStick();
        Due.beyond("late", v -> x.trial(true, v, 0), 0, 60, BAD);
        Due.beyond("late", v -> x.trial(false, v, -1), 0, 60, BAD);
        Due.is("none came", x.many(7), 0);
        Due.is("least", x.trial(true, 0, 0), 0);
        Due.is("most", x.trial(true, 60, 1), 1);
        fair("both", x, 0, 0, true, 1, 2);
        fair("the late one", x, 1, 60, true, 1, 1);
    }

    @Edge(at = "Terms 4", says = "CAME to an END (0 to 7), or none (-1).")
    private static void terms4CameTo0To7OrNone() {
        DeadStick x = new DeadStick();
        Due.beyond("came", v -> x.trial(true, 0, v), -1, 7, BAD);
        Due.is("none came", x.many(7), 0);
        for (int came = -1; came <= 7; came++) Due.is("trial", x.trial(false, 5, came), came + 1);
        for (int end = 0; end <= 7; end++) fair("END " + end, x, end, 5, false, 1, 9);
        Due.is("there needn't be such an END", x.many(1), 0);
    }

    @Edge(at = "Terms 4", says = "of TRIALS with LATE of n or more how many came to it")
    private static void terms4LateOfNOrMore() {
        DeadStick x = new DeadStick();
        x.trial(true, 9, 3);
        x.trial(true, 10, 3);
        x.trial(true, 11, 4);
        fair("by 9", x, 3, 9, true, 2, 3);
        fair("by 10", x, 3, 10, true, 1, 2);
        fair("by 11", x, 3, 11, true, 0, 1);
        fair("by 11", x, 4, 11, true, 1, 1);
        Due.is("by 12", x.fair(4, 12, true, 0), NONE);
    }

    @Edge(at = "Terms 4", says = "of TOLD ones, of others, as fractions; none without such TRIALS.")
    private static void terms4NoneWithoutSuchTrials() {
        DeadStick x = new DeadStick();
        for (int part = 0; part < 2; part++) {
            Due.is("no TRIALS", x.fair(0, 0, true, part), NONE);
            Due.is("no TRIALS", x.fair(0, 0, false, part), NONE);
        }
        x.trial(true, 30, 0);
        fair("of TOLD ones", x, 0, 30, true, 1, 1);
        Due.is("of others", x.fair(0, 30, false, 0), NONE);
        Due.is("of TOLD ones LATE by 31", x.fair(0, 31, true, 1), NONE);
        x.trial(false, 31, 1);
        fair("of TOLD ones", x, 1, 30, true, 0, 1);
        fair("of others", x, 1, 31, false, 1, 1);
        Due.is("of others LATE by 32", x.fair(1, 32, false, 0), NONE);
    }

    // ---- promises 32 to 34

    @Edge(at = "Promise 32", says = "A STEP: its number. BAD;")
    private static void promise32NotAsTold() {
        DeadStick x = new DeadStick();
        Due.beyond("takes", v -> x.step(v, 99, 99), 1, 20, BAD);
        Due.beyond("due", v -> x.step(20, v, 99), 1, 99, BAD);
        Due.beyond("worth", v -> x.step(20, 99, v), 1, 99, BAD);
        Due.is("none came", x.many(5), 0);
        Due.is("all at the least", x.step(1, 1, 1), 0);
        Due.is("all at the most", x.step(20, 99, 99), 1);
        worths("both", x, 100, 100, 0, 1);
    }

    @Edge(at = "Promise 32", says = "BAD; FULL.")
    private static void promise32BadAheadOfFull() {
        DeadStick x = new DeadStick();
        for (int i = 0; i < 7; i++) Due.is("step", x.step(1, 1, 1), i);
        Due.is("the eighth", x.step(1, 1, 1), FULL);
        int[][] bad = {{0, 1, 1}, {21, 1, 1}, {1, 0, 1}, {1, 100, 1}, {1, 1, 0}, {1, 1, 100}};
        for (int[] b : bad) Due.is("the eighth, not as told", x.step(b[0], b[1], b[2]), BAD);
        Due.is("seven", x.many(5), 7);
    }

    @Edge(at = "Promise 33", says = "what = 0 AS IT STANDS, 1 in THE ORDER. BAD.")
    private static void promise33NoSuchWhat() {
        DeadStick x = book(new int[] {2, 3, 4}, new int[] {1, 1, 5});
        Due.is("as it stands", x.worth(0), 4);
        Due.is("in the order", x.worth(1), 9);
        Due.beyond("worth", x::worth, 0, 1, BAD);
        Due.beyond("worth without STEPS", new DeadStick()::worth, 0, 1, BAD);
    }

    @Edge(at = "Promise 34", says = "The i-th STEP of THE ORDER. BAD: there are not so many.")
    private static void promise34NotSoMany() {
        DeadStick x = new DeadStick();
        Due.beyond("order without STEPS", x::order, 0, -1, BAD);
        Due.is("order without STEPS", x.order(0), BAD);
        for (int n = 1; n <= 7; n++) {
            x.step(1, 8 - n, 1);
            for (int i = 0; i < n; i++) Due.is("order " + i + " of " + n, x.order(i), ordered(n, i));
            Due.is("not so many", x.order(n), BAD);
        }
        Due.beyond("order of seven", x::order, 0, 6, BAD);
    }

    /** STEP k of n is DUE at 7 - k, so the last ones must be early: of 4 and fewer none is pressed, of 7 all are. */
    private static int ordered(int n, int i) {
        int[][] orders = {
            {0}, {0, 1}, {0, 1, 2}, {0, 1, 2, 3}, {0, 1, 4, 3, 2}, {0, 5, 4, 3, 2, 1}, {6, 5, 4, 3, 2, 1, 0},
        };
        return orders[n - 1][i];
    }

    // ---- promises 35 to 38

    @Edge(at = "Promise 35", says = "A JOB: its number. BAD; FULL.")
    private static void promise35BadAheadOfFull() {
        DeadStick x = new DeadStick();
        Due.beyond("job", x::job, 1, 50, BAD);
        for (int i = 0; i < 8; i++) Due.is("job", x.job(i % 2 == 0 ? 1 : 50), i);
        Due.is("the ninth", x.job(1), FULL);
        Due.is("the ninth", x.job(50), FULL);
        Due.beyond("the ninth", x::job, 1, 50, BAD);
        Due.is("eight", x.many(6), 8);
    }

    @Edge(at = "Promise 36", says = "SHARED: what = 0 when it is done, 1 the first one's set. BAD.")
    private static void promise36NoSuchWhat() {
        DeadStick x = jobs(3, 4);
        shared("two", x, 4, 1);
        Due.beyond("shared", x::shared, 0, 1, BAD);
        Due.beyond("shared without JOBS", new DeadStick()::shared, 0, 1, BAD);
    }

    @Edge(at = "Promise 37", says = "A TRIAL: its number. BAD; FULL.")
    private static void promise37BadAheadOfFull() {
        DeadStick x = new DeadStick();
        Due.beyond("late", v -> x.trial(true, v, 7), 0, 60, BAD);
        Due.beyond("came", v -> x.trial(false, 60, v), -1, 7, BAD);
        Due.is("none came", x.many(7), 0);
        for (int i = 0; i < 20; i++) Due.is("trial", x.trial(i % 2 == 0, i % 2 * 60, i % 2 * 8 - 1), i);
        Due.is("the 21st", x.trial(true, 60, 7), FULL);
        Due.is("the 21st", x.trial(false, 0, -1), FULL);
        Due.is("the 21st, not as told", x.trial(true, 61, 7), BAD);
        Due.is("the 21st, not as told", x.trial(true, -1, 7), BAD);
        Due.is("the 21st, not as told", x.trial(false, 0, 8), BAD);
        Due.is("the 21st, not as told", x.trial(false, 0, -2), BAD);
        Due.is("twenty", x.many(7), 20);
    }

    @Edge(at = "Promise 38", says = "FAIR by n (0 to 60) for an END (0 to 7)")
    private static void promise38NoSuchEndNumberOrPart() {
        DeadStick x = new DeadStick();
        x.trial(true, 60, 7);
        x.trial(false, 60, 0);
        fair("the least of each", x, 0, 0, false, 1, 1);
        fair("the most of each", x, 7, 60, true, 1, 1);
        for (boolean told : new boolean[] {true, false}) {
            Due.beyond("end", v -> x.fair(v, 0, told, 0), 0, 7, BAD);
            Due.beyond("n", v -> x.fair(0, v, told, 0), 0, 60, BAD);
            Due.beyond("part", v -> x.fair(0, 0, told, v), 0, 1, BAD);
        }
    }

    @Edge(at = "Promise 38", says = "BAD; NONE.")
    private static void promise38BadAheadOfNone() {
        DeadStick x = new DeadStick();
        Due.is("no TRIALS", x.fair(0, 0, true, 0), NONE);
        Due.is("no TRIALS, no such END", x.fair(8, 0, true, 0), BAD);
        Due.is("no TRIALS, no such END", x.fair(-1, 0, false, 1), BAD);
        Due.is("no TRIALS, no such n", x.fair(0, 61, true, 0), BAD);
        Due.is("no TRIALS, no such n", x.fair(0, -1, false, 1), BAD);
        Due.is("no TRIALS, no such part", x.fair(0, 0, true, 2), BAD);
        Due.is("no TRIALS, no such part", x.fair(0, 0, false, -1), BAD);
        x.trial(true, 59, 0);
        Due.is("one too early", x.fair(0, 60, true, 1), NONE);
    }
}
