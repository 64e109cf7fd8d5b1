import java.util.Arrays;

/** Edges of ENDS in sections 1 and 2 and of promises 10 to 15: ends, and which of them can be reached. */
public final class EndsEdgesTest {
    private static final int BAD = -1, FULL = -2, NONE = -3;
    private static final int NORTH = 0, EAST = 1, SOUTH = 2, WEST = 3;

    public static void main(String[] args) {
        Edges.run(EndsEdgesTest.class);
    }

    private static void place(DeadStick x, int cell, int heading, int speed, int height) {
        int[] v = {cell, heading, speed, height};
        for (int what = 0; what < 4; what++) x.craft(what, v[what]);
    }

    /** w by 1 cells: to the east there is one way, and none back. */
    private static DeadStick line(int w, int height) {
        DeadStick x = new DeadStick();
        x.land(w, 1);
        x.craft(3, height);
        return x;
    }

    // ---- section 1

    @Edge(at = "Terms 1", says = "ENDS, 8 at most, numbered as they come")
    private static void terms1EndsAre8AtMost() {
        DeadStick x = new DeadStick();
        for (int i = 0; i < 8; i++) {
            Due.is("many", x.many(1), i);
            Due.is("end", x.end(1, 10 + i, 0, 2, i), i);
        }
        Due.is("the ninth", x.end(1, 0, 0, 2, 0), FULL);
        Due.is("many", x.many(1), 8);
        for (int i = 0; i < 8; i++) Due.is("its cell", x.endOf(i, 1), 10 + i);
    }

    @Edge(at = "Terms 1", says = "of a FORM (1 field, 2 road, 3 water, 4 hill, 5 helped)")
    private static void terms1FormIs1To5() {
        DeadStick x = new DeadStick();
        Due.beyond("end of form", form -> x.end(form, 0, 0, 2, 0), 1, 5, BAD);
        for (int form = 1; form <= 5; form++) {
            Due.is("end", x.end(form, 0, 0, 2, 0), form - 1);
            Due.is("its form", x.endOf(form - 1, 0), form);
        }
    }

    @Edge(at = "Terms 1", says = "good for SPEEDS from a least to a most one")
    private static void terms1GoodFromALeastToAMostSpeed() {
        DeadStick x = new DeadStick();
        x.craft(3, 0);
        int n = 0;
        for (int least = 0; least <= 2; least++) {
            for (int most = least; most <= 2; most++) {
                Due.is("end for " + least + " to " + most, x.end(1, 10 + n, least, most, 0), n);
                x.craft(0, 10 + n);
                for (int speed = 0; speed <= 2; speed++) {
                    x.craft(2, speed);
                    int due = speed >= least && speed <= most ? n : -9;
                    Due.is(least + " to " + most + " by " + speed, x.craftOf(6), due);
                }
                n++;
            }
        }
        Due.is("six", x.many(1), 6);
        int[][] bad = {{1, 0}, {2, 1}, {2, 0}, {-1, 2}, {0, 3}, {-1, -1}, {3, 3}, {0, -1}, {3, 2}};
        for (int[] b : bad) Due.is("end for " + b[0] + " to " + b[1], x.end(1, 0, b[0], b[1], 0), BAD);
        Due.beyond("least", least -> x.end(1, 0, least, 2, 0), 0, 2, BAD);
        Due.beyond("most", most -> x.end(1, 0, 0, most, 0), 0, 2, BAD);
    }

    @Edge(at = "Terms 1", says = "with a COST (0 to 999)")
    private static void terms1CostIs0To999() {
        DeadStick x = new DeadStick();
        Due.is("least", x.end(1, 0, 0, 2, 0), 0);
        Due.is("most", x.end(1, 0, 0, 2, 999), 1);
        Due.is("its cost", x.endOf(0, 4), 0);
        Due.is("its cost", x.endOf(1, 4), 999);
        Due.beyond("end of cost", cost -> x.end(1, 0, 0, 2, cost), 0, 999, BAD);
        Due.is("two", x.many(1), 2);
    }

    @Edge(at = "Terms 1", says = "it COMES TO the first END at its cell that is good for its SPEED")
    private static void terms1ComesToTheFirstGoodEnd() {
        DeadStick x = new DeadStick();
        x.craft(3, 0);
        x.end(1, 1, 0, 2, 0);
        x.end(1, 0, 0, 0, 0);
        x.end(1, 0, 1, 2, 0);
        x.end(1, 0, 0, 2, 0);
        x.end(1, 63, 0, 2, 0);
        int[] dues = {1, 2, 2};
        for (int speed = 0; speed <= 2; speed++) {
            x.craft(2, speed);
            Due.is("by " + speed, x.craftOf(6), dues[speed]);
        }
        x.craft(0, 1);
        Due.is("the very first", x.craftOf(6), 0);
        x.craft(0, 63);
        Due.is("the last", x.craftOf(6), 4);
        x.craft(0, 62);
        Due.is("a cell without one", x.craftOf(6), -9);
    }

    @Edge(at = "Terms 1", says = "without one to none (its COST is 999)")
    private static void terms1WithoutAnEndTheCostIs999() {
        DeadStick x = line(3, 2);
        x.end(1, 1, 0, 0, 5);
        x.end(1, 2, 0, 2, 5);
        Due.is("plan", Due.plan(x), 0);
        Due.is("DOWN at cell 1", x.flown(0, -1, 1), 1);
        Due.is("to none", x.flown(0, -1, 0), -9);
        Due.is("999", x.flown(0, -1, 3), 999);
        x.end(1, 1, 1, 1, 998);
        Due.is("to one", x.flown(0, -1, 0), 2);
        Due.is("its COST", x.flown(0, -1, 3), 998);
    }

    // ---- section 2

    @Edge(at = "Terms 2", says = "SPARE: the greatest HEIGHT less GROUND of its cell (0 at least)")
    private static void terms2SpareIs0AtLeast() {
        DeadStick x = line(3, 60);
        // one even TICK to cell 1 takes 2
        Due.lay(x, 0, 0, 30, 0);
        x.end(1, 1, 1, 1, 0);
        int[][] heights = {{99, 67}, {34, 2}, {33, 1}, {32, 0}, {31, 0}, {3, 0}, {1, 0}, {0, NONE}};
        for (int[] h : heights) {
            x.craft(3, h[0]);
            Due.is("with " + h[0] + " to ground 30", x.spare(0), h[1]);
        }
        x.craft(0, 1);
        int[][] there = {{99, 69}, {31, 1}, {30, 0}, {29, 0}, {0, 0}};
        for (int[] h : there) {
            x.craft(3, h[0]);
            Due.is("there with " + h[0] + " over 30", x.spare(0), h[1]);
        }
    }

    @Edge(at = "Terms 2", says = "the greatest HEIGHT less GROUND")
    private static void terms2SpareIsTheGreatestHeight() {
        DeadStick x = line(5, 60);
        x.end(1, 4, 0, 2, 0);
        // four even TICKS take 8; fast twice 5 and 4; even, fast, even 2, 5 and 3
        Due.is("even is best", x.spare(0), 52);
        x.table(4, 0);
        x.table(2, 1);
        Due.is("fast is best", x.spare(0), 58);
        x.table(2, 9);
        x.table(0, 1);
        Due.is("slow is best", x.spare(0), 56);
    }

    @Edge(at = "Terms 2", says = "with a SPEED that is good for it")
    private static void terms2SpareByAGoodSpeed() {
        DeadStick x = line(4, 60);
        for (int least = 0; least <= 2; least++) {
            for (int most = least; most <= 2; most++) x.end(1, 2, least, most, 0);
        }
        // to cell 2: even, even 56; even, slower 54; faster 55
        int[] dues = {54, 56, 56, 56, 56, 55};
        for (int i = 0; i < 6; i++) Due.is("spare " + i, x.spare(i), dues[i]);
        Due.is("can", x.can(), 63);
        x.end(1, 1, 2, 2, 0);
        Due.is("fast goes by two: not at the next cell", x.spare(6), NONE);
        Due.is("can", x.can(), 63);
    }

    @Edge(at = "Terms 2", says = "by any row of ACTS (none, too;")
    private static void terms2SpareByNoActs() {
        DeadStick x = new DeadStick();
        x.land(1, 1);
        x.end(1, 0, 1, 1, 0);
        x.end(1, 0, 0, 0, 0);
        x.end(1, 0, 2, 2, 0);
        for (int height : new int[] {99, 60, 1, 0}) {
            x.craft(3, height);
            Due.is("where it is", x.spare(0), height);
            Due.is("too fast for it", x.spare(1), NONE);
            Due.is("too slow for it", x.spare(2), NONE);
            Due.is("can", x.can(), 1);
            Due.is("late", x.late(0), 0);
        }
    }

    @Edge(at = "Terms 2", says = "by any row of ACTS (none, too;")
    private static void terms2SpareByNoActsAtEachPlace() {
        for (int cell = 0; cell < 64; cell++) {
            DeadStick x = new DeadStick();
            for (int speed = 0; speed <= 2; speed++) x.end(1, cell, speed, speed, 0);
            for (int way = 0; way < 12; way++) {
                place(x, cell, way / 3, way % 3, 60);
                Due.is("at cell " + cell + ", HEADING " + way / 3 + ", SPEED " + way % 3, x.spare(way % 3), 60);
            }
        }
    }

    @Edge(at = "Terms 2", says = "by any row of ACTS (none, too;")
    private static void terms2SpareByEachActAlone() {
        int[] next = {27 - 8, 27 + 1, 27 + 8};
        int[] takes = {3 + 2 + 1, 2 + 2, 4 + 2 + 1, 3 + 1, 2, 4 + 1, 3 + 2 + 1, 2 + 2, 4 + 2 + 1};
        for (int act = 0; act < 9; act++) {
            int speed = act % 3;
            int cell = speed == 2 ? 2 * next[act / 3] - 27 : next[act / 3];
            // hills all around: there is no way but this ACT
            int[] ground = new int[64];
            Arrays.fill(ground, 99);
            ground[27] = 0;
            ground[cell] = 10;
            DeadStick x = new DeadStick();
            Due.lay(x, 0, ground);
            place(x, 27, EAST, 1, 60);
            x.end(1, cell, speed, speed, 0);
            Due.is("by ACT " + act + " alone", x.spare(0), 60 - takes[act] - 10);
            Due.is("CAN BE by ACT " + act, x.can(), 1);
            Due.is("best by ACT " + act, x.bestEnd(), 0);
            Due.is("LATE by ACT " + act, x.late(0), act == 4 ? 1 : 0);
        }
    }

    @Edge(at = "Terms 1", says = "SPEED stays 0 to 2")
    private static void terms1SpeedStays0To2OnTheWayToAnEnd() {
        // at the next cell by each SPEED and at the one behind it, from each SPEED
        int[][] next = {{57, 57, NONE}, {56, 58, NONE}, {NONE, 57, NONE}};
        int[][] second = {{54, 55, NONE}, {54, 56, 55}, {53, 55, 56}};
        for (int speed = 0; speed <= 2; speed++) {
            DeadStick x = line(8, 60);
            x.craft(2, speed);
            for (int by = 0; by <= 2; by++) {
                x.end(1, 1, by, by, 0);
                Due.is("from SPEED " + speed + " at the next by " + by, x.spare(2 * by), next[speed][by]);
                x.end(1, 2, by, by, 0);
                Due.is("from SPEED " + speed + " at the second by " + by, x.spare(2 * by + 1), second[speed][by]);
            }
        }
    }

    @Edge(at = "Terms 2", says = "without ENGINES)")
    private static void terms2SpareWithoutEngines() {
        DeadStick x = line(4, 5);
        x.end(1, 3, 1, 1, 0);
        x.end(1, 2, 1, 1, 0);
        Due.is("scene", x.scene(99, 9, 0, 20), 0);
        // 3 at 1, 1 at 2, 0 at 3
        Due.is("spare", x.spare(0), 0);
        Due.is("spare", x.spare(1), 1);
        x.craft(3, 4);
        Due.is("DOWN at cell 2", x.spare(0), NONE);
        Due.is("late", x.late(0), NONE);
        Due.is("can", x.can(), 2);
    }

    @Edge(at = "Terms 2", says = "it CAN'T BE, if there is none.")
    private static void terms2ItCantBe() {
        DeadStick x = line(3, 60);
        x.end(1, 0, 1, 1, 0);
        x.end(1, 2, 1, 1, 0);
        x.craft(0, 1);
        Due.is("behind", x.spare(0), NONE);
        Due.is("ahead", x.spare(1), 58);
        Due.is("can", x.can(), 2);
        x.craft(3, 0);
        Due.is("DOWN", x.spare(1), NONE);
        Due.is("can", x.can(), 0);
        x.craft(0, 2);
        Due.is("DOWN there", x.spare(1), 0);
        Due.is("can", x.can(), 2);
    }

    @Edge(at = "Terms 2", says = "LATE: the most TICKS (0 to 30) of straight flight (ACT 4) behind which it CAN still BE")
    private static void terms2LateTheMostTicks() {
        DeadStick x = new DeadStick();
        // 60 less 2 a TICK, an END to the east at the border: never more than 7 TICKS on 8 cells
        x.end(1, 7, 1, 1, 0);
        Due.is("all seven", x.late(0), 7);
        place(x, 1, EAST, 1, 60);
        Due.is("six", x.late(0), 6);
        place(x, 6, EAST, 1, 60);
        Due.is("one", x.late(0), 1);
        place(x, 7, EAST, 1, 60);
        Due.is("there, and straight MAY not BE", x.late(0), 0);
        DeadStick y = new DeadStick();
        y.land(3, 3);
        y.end(1, 3, 0, 2, 0);
        place(y, 0, EAST, 1, 8);
        // at once: right takes 4; behind one TICK there is 6: right to cell 4, right to cell 3; behind two 4: DOWN at once
        Due.is("at once", y.spare(0), 4);
        Due.is("one", y.late(0), 1);
        y.craft(3, 6);
        // behind one TICK there is 4: DOWN at cell 4
        Due.is("at once", y.spare(0), 2);
        Due.is("none", y.late(0), 0);
        y.craft(3, 9);
        // behind two TICKS there is 5: right to cell 5 with 1, right and faster by two cells to cell 3
        Due.is("two", y.late(0), 2);
    }

    @Edge(at = "Terms 2", says = "LATE: the most TICKS (0 to 30) of straight flight (ACT 4)")
    private static void terms2LateByEachSpeed() {
        DeadStick x = line(8, 60);
        x.end(1, 7, 0, 2, 0);
        // from cell 0: seven by one cell; fast by two cells to 6, from where 7 can be reached by slower alone
        int[] dues = {7, 7, 3};
        for (int speed = 0; speed <= 2; speed++) {
            x.craft(2, speed);
            Due.is("by SPEED " + speed, x.late(0), dues[speed]);
        }
        x.craft(0, 1);
        Due.is("fast from 1 to 7", x.late(0), 3);
        x.craft(0, 6);
        Due.is("fast at 6", x.late(0), 0);
        x.craft(2, 0);
        Due.is("slow at 6", x.late(0), 1);
        // three slow TICKS take 9: DOWN at cell 3
        x.craft(0, 0);
        x.craft(3, 9);
        x.end(1, 3, 0, 0, 0);
        Due.is("slow and low", x.late(1), 3);
        // faster, straight, slower come there with 3, 1, 0, but not behind a TICK
        x.craft(3, 6);
        Due.is("none but at once", x.late(1), 0);
        x.craft(3, 5);
        Due.is("DOWN at cell 2", x.late(1), NONE);
    }

    @Edge(at = "Terms 2", says = "(they all MAY BE)")
    private static void terms2LateTheyAllMayBe() {
        DeadStick x = line(4, 60);
        x.end(1, 3, 0, 2, 0);
        Due.is("three to the border", x.late(0), 3);
        Due.lay(x, 0, 0, 0, 58, 0);
        Due.is("one; behind two it is over 58 with 56", x.late(0), 1);
        Due.lay(x, 0, 0, 58, 0, 0);
        Due.is("DOWN behind the first: over it at once only, fast", x.late(0), 0);
        x.craft(2, 2);
        Due.is("fast to cell 2, then not fast", x.late(0), 1);
    }

    @Edge(at = "Terms 2", says = "(they all MAY BE)")
    private static void terms2LateNotBeyondWhereItIsDown() {
        DeadStick x = new DeadStick();
        int[] ground = new int[64];
        ground[25] = 58;
        Due.lay(x, 0, ground);
        place(x, 24, EAST, 1, 60);
        x.end(1, 25, 0, 2, 0);
        // beyond the hill there would be a way round and back to it
        Due.is("DOWN there behind one TICK", x.late(0), 1);
        place(x, 25, EAST, 1, 58);
        Due.is("DOWN there now", x.late(0), 0);
        x.craft(3, 59);
        Due.is("one above it: six to the border, and back from there", x.late(0), 6);
    }

    @Edge(at = "Terms 2", says = "none, if it CAN'T BE now.")
    private static void terms2LateNoneIfItCantBeNow() {
        DeadStick x = line(4, 60);
        x.end(1, 0, 0, 2, 0);
        x.end(1, 3, 0, 2, 0);
        Due.is("by no ACTS, but not behind a TICK", x.late(0), 0);
        x.craft(0, 1);
        Due.is("behind", x.late(0), NONE);
        Due.is("ahead", x.late(1), 2);
        x.craft(3, 0);
        Due.is("DOWN", x.late(1), NONE);
        x.craft(0, 3);
        Due.is("DOWN there", x.late(1), 0);
    }

    @Edge(at = "Terms 2", says = "BEST END: of those that CAN BE the one with the least COST and HOUSES of its cell together, of several the first.")
    private static void terms2BestEnd() {
        DeadStick x = line(4, 60);
        Due.lay(x, 1, 0, 99, 10, 0);
        x.craft(0, 1);
        x.end(1, 0, 0, 2, 0);
        Due.is("the cheap one CAN'T BE", x.bestEnd(), NONE);
        x.end(1, 1, 1, 1, 0);
        Due.is("0 and 99", x.bestEnd(), 1);
        x.end(1, 2, 0, 2, 90);
        Due.is("90 and 10 is one more", x.bestEnd(), 1);
        x.end(1, 2, 0, 2, 89);
        Due.is("89 and 10 is as much: the first", x.bestEnd(), 1);
        x.end(1, 2, 0, 2, 88);
        Due.is("88 and 10 is one less", x.bestEnd(), 4);
        x.end(1, 3, 0, 2, 98);
        Due.is("98 and 0 is as much: the first", x.bestEnd(), 4);
        x.end(1, 3, 0, 2, 97);
        Due.is("97", x.bestEnd(), 6);
        x.craft(0, 2);
        Due.is("that one still", x.bestEnd(), 6);
        x.craft(3, 0);
        Due.is("DOWN at cell 2", x.bestEnd(), 4);
        DeadStick y = line(2, 60);
        Due.lay(y, 1, 0, 99);
        y.end(1, 1, 0, 2, 999);
        Due.is("the most there is", y.bestEnd(), 0);
        y.end(1, 1, 0, 2, 998);
        Due.is("one less", y.bestEnd(), 1);
    }

    // ---- promises 10 and 11

    @Edge(at = "Promise 10", says = "An END: its number. BAD;")
    private static void promise10NotAsTold() {
        DeadStick x = new DeadStick();
        Due.beyond("form", v -> x.end(v, 0, 0, 2, 0), 1, 5, BAD);
        Due.beyond("cell", v -> x.end(1, v, 0, 2, 0), 0, 63, BAD);
        Due.beyond("least", v -> x.end(1, 0, v, 2, 0), 0, 2, BAD);
        Due.beyond("most", v -> x.end(1, 0, 0, v, 0), 0, 2, BAD);
        Due.beyond("cost", v -> x.end(1, 0, 0, 2, v), 0, 999, BAD);
        Due.is("the least above the most", x.end(1, 0, 2, 1, 0), BAD);
        Due.is("none came", x.many(1), 0);
        Due.is("all at the least", x.end(1, 0, 0, 0, 0), 0);
        Due.is("all at the most", x.end(5, 63, 2, 2, 999), 1);
        int[] least = {1, 0, 0, 0, 0};
        int[] most = {5, 63, 2, 2, 999};
        for (int what = 0; what < 5; what++) {
            Due.is("endOf", x.endOf(0, what), least[what]);
            Due.is("endOf", x.endOf(1, what), most[what]);
        }
        DeadStick y = new DeadStick();
        y.land(3, 2);
        Due.beyond("cell of six", v -> y.end(1, v, 0, 2, 0), 0, 5, BAD);
        Due.is("the last of six", y.end(1, 5, 0, 2, 0), 0);
    }

    @Edge(at = "Promise 10", says = "BAD; FULL.")
    private static void promise10BadAheadOfFull() {
        DeadStick x = new DeadStick();
        for (int i = 0; i < 8; i++) Due.is("end", x.end(1, 0, 0, 2, 0), i);
        Due.is("the ninth", x.end(1, 0, 0, 2, 0), FULL);
        int[][] bad = {{0, 0, 0, 0, 0}, {1, 64, 0, 0, 0}, {1, 0, -1, 0, 0}, {1, 0, 1, 0, 0}, {1, 0, 0, 3, 0}, {1, 0, 0, 0, 1000}};
        for (int[] b : bad) Due.is("the ninth, not as told", x.end(b[0], b[1], b[2], b[3], b[4]), BAD);
        Due.is("eight", x.many(1), 8);
    }

    @Edge(at = "Promise 11", says = "Of an END: what = 0 FORM, 1 cell, 2 least, 3 most SPEED, 4 COST. BAD.")
    private static void promise11NoSuchEndOrWhat() {
        DeadStick x = new DeadStick();
        Due.beyond("endOf of none", end -> x.endOf(end, 0), 0, -1, BAD);
        Due.is("endOf of none", x.endOf(0, 0), BAD);
        int[][] ends = {{2, 40, 0, 1, 7}, {4, 9, 1, 2, 500}};
        for (int[] e : ends) x.end(e[0], e[1], e[2], e[3], e[4]);
        for (int i = 0; i < 2; i++) {
            for (int what = 0; what < 5; what++) Due.is("endOf", x.endOf(i, what), ends[i][what]);
            int end = i;
            Due.beyond("what", what -> x.endOf(end, what), 0, 4, BAD);
        }
        Due.beyond("end", end -> x.endOf(end, 4), 0, 1, BAD);
    }

    // ---- promises 12 to 15

    @Edge(at = "Promise 12", says = "SPARE. BAD; NONE: it CAN'T BE.")
    private static void promise12NoSuchEndOrItCantBe() {
        DeadStick x = line(3, 60);
        Due.is("no ENDS", x.spare(0), BAD);
        x.end(1, 2, 1, 1, 0);
        x.end(1, 0, 0, 0, 0);
        Due.beyond("spare", x::spare, 0, 1, BAD);
        Due.is("the first", x.spare(0), 56);
        Due.is("the last CAN'T BE", x.spare(1), NONE);
        x.craft(3, 0);
        Due.is("no such END, DOWN", x.spare(2), BAD);
        Due.is("CAN'T BE, DOWN", x.spare(0), NONE);
    }

    @Edge(at = "Promise 13", says = "LATE. BAD; NONE.")
    private static void promise13NoSuchEndOrItCantBe() {
        DeadStick x = line(3, 60);
        Due.is("no ENDS", x.late(0), BAD);
        x.end(1, 2, 1, 1, 0);
        x.end(1, 0, 0, 0, 0);
        Due.beyond("late", x::late, 0, 1, BAD);
        Due.is("the first", x.late(0), 2);
        Due.is("the last CAN'T BE", x.late(1), NONE);
        x.craft(3, 0);
        Due.is("no such END, DOWN", x.late(2), BAD);
        Due.is("now is as it was", x.craftOf(4), 0);
    }

    @Edge(at = "Promise 14", says = "ENDS that CAN BE, as bits.")
    private static void promise14NoneToAllOfEight() {
        DeadStick x = line(3, 60);
        Due.is("no ENDS", x.can(), 0);
        for (int i = 0; i < 8; i++) {
            x.end(1, 2, 1, 1, 0);
            Due.is("all of " + (i + 1), x.can(), (1 << i + 1) - 1);
        }
        x.craft(3, 0);
        Due.is("none of eight", x.can(), 0);
        DeadStick y = line(3, 60);
        for (int i = 0; i < 8; i++) y.end(1, i % 2 == 0 ? 2 : 0, 0, 0, 0);
        Due.is("each other one", y.can(), 1 + 4 + 16 + 64);
    }

    @Edge(at = "Promise 15", says = "BEST END. NONE: no END CAN BE.")
    private static void promise15NoEndCanBe() {
        DeadStick x = line(3, 60);
        Due.is("no ENDS", x.bestEnd(), NONE);
        x.craft(0, 1);
        x.end(1, 0, 0, 2, 0);
        Due.is("one that CAN'T BE", x.bestEnd(), NONE);
        x.end(1, 2, 0, 2, 999);
        Due.is("one that CAN BE", x.bestEnd(), 1);
        x.craft(3, 0);
        Due.is("DOWN, none CAN BE", x.bestEnd(), NONE);
    }

    // ---- flight that ENDS are reached by, at the edges of the land

    @Edge(at = "Terms 2", says = "with which THE CRAFT can be at its cell")
    private static void terms2ReachKeepsToTheLand() {
        DeadStick x = new DeadStick();
        // from the last cell of the first row to the east there is no way to the first of the second row but by turns
        place(x, 7, EAST, 1, 60);
        x.end(1, 8, 1, 1, 0);
        x.end(1, 6, 1, 1, 0);
        // right to 15, right to 14, then six straight to 8
        Due.is("round by the second row", x.spare(0), 60 - 4 - 4 - 2 * 6);
        // right, right, right, left would come to 6 heading west: 4 + 4 + 4 to 6 heading north
        Due.is("round to its neighbour", x.spare(1), 60 - 4 - 4 - 4);
        place(x, 63, SOUTH, 1, 60);
        // right at once: west to 62
        x.end(1, 62, 1, 1, 0);
        Due.is("to the west", x.spare(2), 60 - 4);
        place(x, 0, NORTH, 1, 60);
        x.end(1, 1, 1, 1, 0);
        Due.is("to the east", x.spare(3), 60 - 4);
        place(x, 56, WEST, 1, 60);
        x.end(1, 48, 1, 1, 0);
        Due.is("to the north", x.spare(4), 60 - 4);
    }

    @Edge(at = "Terms 2", says = "the greatest HEIGHT less GROUND of its cell")
    private static void terms2ReachNotThroughHills() {
        DeadStick x = line(4, 60);
        x.end(1, 3, 1, 1, 0);
        Due.lay(x, 0, 0, 58, 0, 0);
        // DOWN at cell 1; over it fast 55 to cell 2, then slower 2 + 1
        Due.is("over the hill", x.spare(0), 52);
        Due.lay(x, 0, 0, 57, 0, 0);
        Due.is("one above the hill", x.spare(0), 54);
        Due.lay(x, 0, 0, 58, 55, 0);
        Due.is("two hills: fast is DOWN on the second", x.spare(0), NONE);
        Due.lay(x, 0, 0, 58, 54, 0);
        Due.is("one above the second", x.spare(0), 52);
        Due.lay(x, 0, 60, 0, 0, 0);
        Due.is("DOWN from the first", x.spare(0), NONE);
    }
}
