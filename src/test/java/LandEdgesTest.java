/** Edges of section 1 (but of ENDS) and of promises 1 to 9: the land, the craft, the tables, acts. */
public final class LandEdgesTest {
    private static final int BAD = -1, NONE = -3, STATE = -4, KIND = -13, NOTHING = -11;
    private static final int NORTH = 0, EAST = 1, SOUTH = 2, WEST = 3;

    public static void main(String[] args) {
        Edges.run(LandEdgesTest.class);
    }

    private static void place(DeadStick x, int cell, int heading, int speed, int height) {
        int[] v = {cell, heading, speed, height};
        for (int what = 0; what < 4; what++) {
            x.craft(what, v[what]);
            Due.is("craft " + what + " became " + v[what], x.craftOf(what), v[what]);
        }
    }

    /** Flies 200 TICKS round and round, from the first cell to it again; HEIGHT is 60 and HEADING east then. */
    private static DeadStick atTick200() {
        DeadStick x = new DeadStick();
        x.table(1, 1);
        x.table(3, 0);
        x.craft(1, NORTH);
        for (int i = 0; i < 200; i++) {
            if (i % 50 == 0) x.craft(3, 60);
            Due.is("TICK " + (i + 1), x.fly(7), 60 - i % 50 - 1);
        }
        place(x, 0, EAST, 1, 60);
        return x;
    }

    // ---- section 1

    @Edge(at = "Terms 1", says = "has 1 to 8 by 1 to 8 cells")
    private static void terms1LandHas1To8By1To8Cells() {
        DeadStick x = new DeadStick();
        for (int w = 1; w <= 8; w++) {
            for (int h = 1; h <= 8; h++) {
                Due.is("land " + w + " by " + h, x.land(w, h), 1);
                Due.is("cells", x.many(0), w * h);
            }
        }
        for (int good : new int[] {1, 8}) {
            Due.beyond("land by " + good, w -> x.land(w, good), 1, 8, BAD);
            Due.beyond("land of " + good + " by", h -> x.land(good, h), 1, 8, BAD);
        }
        Due.is("land 0 by 0", x.land(0, 0), BAD);
        Due.is("land -2 by -2", x.land(-2, -2), BAD);
        Due.is("land of sides whose product wraps to 0", x.land(65536, 65536), BAD);
        Due.is("cells stay", x.many(0), 64);
    }

    @Edge(at = "Terms 1", says = "has 1 to 8 by 1 to 8 cells")
    private static void terms1FlightOverLandsOfEachSize() {
        for (int w = 1; w <= 8; w++) {
            for (int h = 1; h <= 8; h++) {
                DeadStick x = new DeadStick();
                x.land(w, h);
                // to the south along the first column, and to the north along the last one
                crossed(x, 0, SOUTH, h - 1, w * h - w);
                crossed(x, w * h - 1, NORTH, h - 1, w - 1);
                crossed(x, 0, EAST, w - 1, w - 1);
                crossed(x, w * h - 1, WEST, w - 1, w * h - w);
            }
        }
    }

    private static void crossed(DeadStick x, int from, int heading, int ticks, int to) {
        place(x, from, heading, 1, 60);
        for (int i = 1; i <= ticks; i++) Due.is("TICK " + i + " from " + from + " by " + heading, x.fly(4), 60 - 2 * i);
        Due.is("the border from " + from + " by " + heading, x.craftOf(0), to);
        Due.is("no more from " + from + " by " + heading, x.fly(4), STATE);
    }

    @Edge(at = "Terms 1", says = "(8 by 8 at first)")
    private static void terms1LandIs8By8AtFirst() {
        DeadStick x = new DeadStick();
        Due.is("cells", x.many(0), 64);
        Due.is("the last cell", x.cellOf(63, 0), 0);
        Due.is("behind the last cell", x.cellOf(64, 0), BAD);
        for (int heading : new int[] {EAST, SOUTH}) {
            place(x, 0, heading, 1, 60);
            for (int i = 1; i <= 7; i++) Due.is("seven TICKS to the border", x.fly(4), 60 - 2 * i);
            Due.is("the border", x.craftOf(0), heading == EAST ? 7 : 56);
            Due.is("no eighth", x.fly(4), STATE);
        }
    }

    @Edge(at = "Terms 1", says = "numbered by rows, 0 the one in the north west")
    private static void terms1CellsAreNumberedByRows() {
        DeadStick x = new DeadStick();
        x.land(3, 2);
        int off = -1;
        int[][] next = {
            {off, 1, 3, off}, {off, 2, 4, 0}, {off, off, 5, 1},
            {0, 4, off, off}, {1, 5, off, 3}, {2, off, off, 4},
        };
        for (int cell = 0; cell < 6; cell++) {
            for (int heading = 0; heading < 4; heading++) {
                place(x, cell, heading, 1, 60);
                int due = next[cell][heading];
                Due.is("from " + cell + " by " + heading, x.fly(4), due == off ? STATE : 58);
                Due.is("from " + cell + " by " + heading + ": cell", x.craftOf(0), due == off ? cell : due);
            }
        }
    }

    @Edge(at = "Terms 1", says = "each has GROUND (0 to 99; 0 at first)")
    private static void terms1GroundIs0To99And0AtFirst() {
        DeadStick x = new DeadStick();
        for (int cell = 0; cell < 64; cell++) Due.is("ground at first", x.cellOf(cell, 0), 0);
        heights(0);
    }

    @Edge(at = "Terms 1", says = "HOUSES (0 to 99; 0 at first).")
    private static void terms1HousesAre0To99And0AtFirst() {
        DeadStick x = new DeadStick();
        for (int cell = 0; cell < 64; cell++) Due.is("houses at first", x.cellOf(cell, 1), 0);
        heights(1);
    }

    private static void heights(int what) {
        DeadStick x = new DeadStick();
        x.land(2, 1);
        Due.lay(x, what, 99, 0);
        Due.is("most", x.cellOf(0, what), 99);
        Due.is("least", x.cellOf(1, what), 0);
        Due.lay(x, what, 0, 99);
        for (int bad : new int[] {-1, 100, 127, -128}) {
            Due.fill(x, 0, 0, bad, 5);
            Due.is("the first is " + bad, x.lay(0, what), STATE);
            Due.fill(x, 0, 0, 5, bad);
            Due.is("the last is " + bad, x.lay(0, what), STATE);
        }
        Due.is("the first stays", x.cellOf(0, what), 0);
        Due.is("the last stays", x.cellOf(1, what), 99);
        Due.is("the other is as it was", x.cellOf(1, 1 - what), 0);
    }

    @Edge(at = "Terms 1", says = "is on a cell (0 at first)")
    private static void terms1CellIs0AtFirstAndOneOfTheLand() {
        DeadStick x = new DeadStick();
        Due.is("at first", x.craftOf(0), 0);
        Due.is("to the last", x.craft(0, 63), 0);
        Due.is("to the first", x.craft(0, 0), 63);
        Due.beyond("craft 0", v -> x.craft(0, v), 0, 63, BAD);
        x.land(3, 2);
        Due.is("to the last of six", x.craft(0, 5), 0);
        Due.beyond("craft 0 of six cells", v -> x.craft(0, v), 0, 5, BAD);
        Due.is("it stays", x.craftOf(0), 5);
    }

    @Edge(at = "Terms 1", says = "a HEADING (0 north, 1 east, 2 south, 3 west; 1 at first)")
    private static void terms1HeadingIs0To3And1AtFirst() {
        DeadStick x = new DeadStick();
        Due.is("at first", x.craftOf(1), 1);
        Due.is("most", x.craft(1, 3), 1);
        Due.is("least", x.craft(1, 0), 3);
        Due.beyond("craft 1", v -> x.craft(1, v), 0, 3, BAD);
        Due.is("it stays", x.craftOf(1), 0);
        int[] next = {19, 28, 35, 26};
        for (int heading = 0; heading < 4; heading++) {
            place(x, 27, heading, 1, 60);
            x.fly(4);
            Due.is("from 27 by " + heading, x.craftOf(0), next[heading]);
        }
    }

    @Edge(at = "Terms 1", says = "a SPEED (0 slow, 1 even, 2 fast; 1 at first)")
    private static void terms1SpeedIs0To2And1AtFirst() {
        DeadStick x = new DeadStick();
        Due.is("at first", x.craftOf(2), 1);
        Due.is("most", x.craft(2, 2), 1);
        Due.is("least", x.craft(2, 0), 2);
        Due.beyond("craft 2", v -> x.craft(2, v), 0, 2, BAD);
        Due.is("it stays", x.craftOf(2), 0);
    }

    @Edge(at = "Terms 1", says = "a HEIGHT (0 to 99; 60 at first)")
    private static void terms1HeightIs0To99And60AtFirst() {
        DeadStick x = new DeadStick();
        Due.is("at first", x.craftOf(3), 60);
        Due.is("most", x.craft(3, 99), 60);
        Due.is("least", x.craft(3, 0), 99);
        Due.beyond("craft 3", v -> x.craft(3, v), 0, 99, BAD);
        Due.is("it stays", x.craftOf(3), 0);
    }

    @Edge(at = "Terms 1", says = "It is DOWN, if HEIGHT is GROUND of its cell or less.")
    private static void terms1DownIsGroundOrLess() {
        DeadStick x = new DeadStick();
        x.land(3, 1);
        Due.lay(x, 0, 20, 0, 99);
        int[][] downs = {
            {0, 21, 0}, {0, 20, 1}, {0, 19, 1}, {0, 0, 1}, {0, 99, 0}, {1, 1, 0}, {1, 0, 1}, {2, 99, 1}, {2, 98, 1},
        };
        for (int[] d : downs) {
            place(x, d[0], EAST, 1, d[1]);
            Due.is("DOWN at cell " + d[0] + " with " + d[1], x.craftOf(5), d[2]);
        }
    }

    @Edge(at = "Terms 1", says = "TICK: 0 to 200 (0 at first;")
    private static void terms1TickIs0To200And0AtFirst() {
        Due.is("at first", new DeadStick().craftOf(4), 0);
        DeadStick x = atTick200();
        Due.is("the last", x.craftOf(4), 200);
        Due.is("no more", x.fly(4), STATE);
        Due.is("it stays", x.craftOf(4), 200);
        Due.is("cell stays", x.craftOf(0), 0);
    }

    @Edge(at = "Terms 1", says = "flight in thought goes on behind 200, too")
    private static void terms1ThoughtGoesOnBehind200() {
        DeadStick x = atTick200();
        Due.is("acts: not left", x.acts(), 504);
        Due.is("end", x.end(1, 7, 0, 2, 9), 0);
        Due.is("spare: seven even TICKS", x.spare(0), 53);
        Due.is("late", x.late(0), 7);
        Due.is("can", x.can(), 1);
        Due.is("bestEnd", x.bestEnd(), 0);
        Due.is("plan", Due.plan(x), 0);
        Due.is("flown: seven TICKS to the border", x.flown(0, -1, 2), 7);
        Due.is("prove", x.prove(0), 7);
        Due.is("judge", x.judge(), 0);
        // straight at 200, right at 201, then six more to the south border
        Due.is("read", Due.read(x, "right if tick=201;"), 1);
        Due.is("hand", x.hand(), 4);
        Due.is("ruled: TICKS", x.ruled(2), 8);
        Due.is("ruled: cell", x.ruled(1), 57);
        Due.is("now is as it was", x.craftOf(4), 200);
    }

    @Edge(at = "Terms 1", says = "SINK of each SPEED (1 to 9; 3, 2, 4 at first)")
    private static void terms1SinkIs1To9And324AtFirst() {
        int[] atFirst = {3, 2, 4};
        for (int speed = 0; speed < 3; speed++) {
            table(speed, 1, 9, atFirst[speed]);
            for (int sink : new int[] {1, 9}) {
                DeadStick x = new DeadStick();
                place(x, 27, EAST, speed, 60);
                Due.is("at first", new DeadStick().table(speed, sink), atFirst[speed]);
                x.table(speed, sink);
                Due.is("it sinks by", x.fly(4), 60 - sink);
            }
        }
    }

    @Edge(at = "Terms 1", says = "TURN (0 to 9; 2)")
    private static void terms1TurnIs0To9And2AtFirst() {
        table(3, 0, 9, 2);
        for (int turn : new int[] {0, 9}) {
            DeadStick x = new DeadStick();
            place(x, 27, EAST, 1, 60);
            x.table(3, turn);
            Due.is("left", x.fly(1), 60 - 2 - turn);
            Due.is("none", x.fly(4), 58 - 2 - turn);
            Due.is("right", x.fly(7), 56 - 2 - 2 * turn);
        }
    }

    @Edge(at = "Terms 1", says = "CHANGE (0 to 9; 1)")
    private static void terms1ChangeIs0To9And1AtFirst() {
        table(4, 0, 9, 1);
        for (int change : new int[] {0, 9}) {
            DeadStick x = new DeadStick();
            place(x, 24, EAST, 1, 60);
            x.table(4, change);
            Due.is("slower", x.fly(3), 60 - 3 - change);
            Due.is("none", x.fly(4), 57 - 3 - change);
            Due.is("faster", x.fly(5), 54 - 2 - 2 * change);
        }
    }

    @Edge(at = "Terms 1", says = "WIND of each HEADING (0 to 5; 0 at first)")
    private static void terms1WindIs0To5And0AtFirst() {
        for (int heading = 0; heading < 4; heading++) {
            table(5 + heading, 0, 5, 0);
            DeadStick x = new DeadStick();
            x.table(5 + heading, 5);
            for (int to = 0; to < 4; to++) {
                place(x, 27, to, 1, 60);
                Due.is("wind of " + heading + " to " + to, x.fly(4), to == heading ? 53 : 58);
            }
        }
    }

    private static void table(int what, int least, int most, int atFirst) {
        DeadStick x = new DeadStick();
        Due.is("table " + what + " at first", x.table(what, least), atFirst);
        Due.is("table " + what + " from the least", x.table(what, most), least);
        Due.beyond("table " + what, v -> x.table(what, v), least, most, BAD);
        Due.is("table " + what + " from the most", x.table(what, atFirst), most);
    }

    @Edge(at = "Terms 1", says = "ACTS 0 to 8: 3 times (0 left, 1 none, 2 right) and (0 slower, 1 none, 2 faster).")
    private static void terms1ActsAre0To8() {
        DeadStick x = new DeadStick();
        // cell, HEADING, SPEED, HEIGHT behind each from 27 to the north, even, at 60
        int[][] behind = {
            {26, WEST, 0, 54}, {26, WEST, 1, 56}, {25, WEST, 2, 53},
            {19, NORTH, 0, 56}, {19, NORTH, 1, 58}, {11, NORTH, 2, 55},
            {28, EAST, 0, 54}, {28, EAST, 1, 56}, {29, EAST, 2, 53},
        };
        for (int act = 0; act <= 8; act++) {
            place(x, 27, NORTH, 1, 60);
            Due.is("fly " + act, x.fly(act), behind[act][3]);
            for (int what = 0; what < 4; what++) Due.is("fly " + act + ": " + what, x.craftOf(what), behind[act][what]);
        }
        place(x, 27, NORTH, 1, 60);
        Due.beyond("fly", x::fly, 0, 8, BAD);
    }

    @Edge(at = "Terms 1", says = "By an ACT HEADING is one less (left), one more (right), modulo 4")
    private static void terms1HeadingIsModulo4() {
        DeadStick x = new DeadStick();
        for (int heading = 0; heading < 4; heading++) {
            place(x, 27, heading, 1, 60);
            x.fly(1);
            Due.is("left of " + heading, x.craftOf(1), new int[] {WEST, NORTH, EAST, SOUTH}[heading]);
            place(x, 27, heading, 1, 60);
            x.fly(7);
            Due.is("right of " + heading, x.craftOf(1), new int[] {EAST, SOUTH, WEST, NORTH}[heading]);
        }
    }

    @Edge(at = "Terms 1", says = "then THE CRAFT goes on by its HEADING one cell, two if SPEED is 2")
    private static void terms1OneCellTwoIfSpeedIs2() {
        DeadStick x = new DeadStick();
        // SPEED, ACT, cell behind it, from 27 to the east: by the SPEED and the HEADING behind the ACT
        int[][] goes = {
            {0, 4, 28}, {0, 5, 28}, {1, 3, 28}, {1, 4, 28}, {1, 5, 29}, {2, 3, 28}, {2, 4, 29},
            {1, 2, 11}, {1, 8, 43}, {2, 0, 19}, {2, 7, 43}, {0, 8, 35},
        };
        for (int[] g : goes) {
            place(x, 27, EAST, g[0], 60);
            x.fly(g[1]);
            Due.is("SPEED " + g[0] + ", ACT " + g[1] + ": cell", x.craftOf(0), g[2]);
        }
    }

    @Edge(at = "Terms 1", says = "CHANGE if SPEED changed (0 at least)")
    private static void terms1HeightIs0AtLeast() {
        DeadStick x = new DeadStick();
        int[][] heights = {{6, 1}, {5, 0}, {4, 0}, {1, 0}};
        for (int[] h : heights) {
            place(x, 27, EAST, 1, h[0]);
            Due.is("faster takes 5 of " + h[0], x.fly(5), h[1]);
            Due.is("HEIGHT", x.craftOf(3), h[1]);
        }
        int[] most = {9, 9, 9, 9, 9, 5, 5, 5, 5};
        for (int what = 0; what < 9; what++) x.table(what, most[what]);
        int[][] dear = {{33, 1}, {32, 0}, {31, 0}};
        for (int[] h : dear) {
            place(x, 27, EAST, 1, h[0]);
            Due.is("9, 5, 9 and 9 of " + h[0], x.fly(8), h[1]);
        }
    }

    @Edge(at = "Terms 1", says = "An ACT MAY BE, if THE CRAFT is not DOWN")
    private static void terms1NoActMayBeWhenDown() {
        DeadStick x = new DeadStick();
        x.land(5, 5);
        int[] ground = new int[25];
        ground[12] = 20;
        Due.lay(x, 0, ground);
        int[][] heights = {{21, 511}, {20, 0}, {19, 0}, {0, 0}};
        for (int[] h : heights) {
            place(x, 12, EAST, 1, h[0]);
            Due.is("acts with " + h[0] + " over 20", x.acts(), h[1]);
        }
        for (int act = 0; act <= 8; act++) Due.is("fly when DOWN", x.fly(act), STATE);
        place(x, 11, EAST, 1, 1);
        Due.is("1 over 0", x.acts(), 511);
        place(x, 11, EAST, 1, 0);
        Due.is("0 over 0", x.acts(), 0);
    }

    @Edge(at = "Terms 1", says = "SPEED stays 0 to 2")
    private static void terms1SpeedStays0To2() {
        DeadStick x = new DeadStick();
        place(x, 27, EAST, 0, 60);
        for (int act : new int[] {0, 3, 6}) Due.is("slower than slow", x.fly(act), STATE);
        Due.is("slow: six ACTS", x.acts(), 511 - 1 - 8 - 64);
        place(x, 27, EAST, 2, 60);
        for (int act : new int[] {2, 5, 8}) Due.is("faster than fast", x.fly(act), STATE);
        Due.is("fast: six ACTS", x.acts(), 511 - 4 - 32 - 256);
        place(x, 27, EAST, 1, 60);
        Due.is("even: all", x.acts(), 511);
    }

    @Edge(at = "Terms 1", says = "and all cells to which it goes are on THE LAND")
    private static void terms1AllCellsAreOnTheLand() {
        DeadStick x = new DeadStick();
        // by HEADING: the cell at the border, the next one, the one behind that
        int[][] cells = {{3, 11, 19}, {31, 30, 29}, {59, 51, 43}, {24, 25, 26}};
        for (int heading = 0; heading < 4; heading++) {
            int[] at = cells[heading];
            place(x, at[0], heading, 1, 60);
            Due.is("even at the border", x.fly(4), STATE);
            place(x, at[0], heading, 2, 60);
            Due.is("fast at the border", x.fly(4), STATE);
            place(x, at[1], heading, 2, 60);
            Due.is("fast, one cell left", x.fly(4), STATE);
            Due.is("it stays", x.craftOf(0), at[1]);
            place(x, at[1], heading, 1, 60);
            Due.is("even, one cell left", x.fly(4), 58);
            Due.is("at the border", x.craftOf(0), at[0]);
            place(x, at[2], heading, 2, 60);
            Due.is("fast, two cells left", x.fly(4), 56);
            Due.is("at the border", x.craftOf(0), at[0]);
        }
        DeadStick y = new DeadStick();
        y.land(1, 1);
        Due.is("one cell: none", y.acts(), 0);
    }

    // ---- promise 1

    @Edge(at = "Promise 1", says = "TICK 0 over a flat land; nothing is kept.")
    private static void promise01ANewObject() {
        DeadStick x = new DeadStick();
        Due.is("TICK", x.craftOf(4), 0);
        for (int cell = 0; cell < 64; cell++) Due.is("flat", x.cellOf(cell, 0), 0);
        Due.is("nothing is kept", x.again(), NONE);
        int[] many = {64, 0, 0, 0, 0, 0, 0, 0, 0, 0, 0};
        for (int what = 0; what <= 10; what++) Due.is("many " + what, x.many(what), many[what]);
        int[] tables = {3, 2, 4, 2, 1, 0, 0, 0, 0};
        for (int what = 0; what < 9; what++) Due.is("table " + what, x.table(what, tables[what]), tables[what]);
        DeadStick y = new DeadStick();
        y.keep();
        y.job(5);
        Due.is("objects have nothing in common", new DeadStick().again(), NONE);
        Due.is("objects have nothing in common", new DeadStick().many(6), 0);
    }

    // ---- promise 2

    @Edge(at = "Promise 2", says = "THE LAND becomes w by h cells, GROUND, HOUSES 0: 1.")
    private static void promise02GroundAndHousesAre0() {
        DeadStick x = new DeadStick();
        x.land(2, 2);
        Due.lay(x, 0, 1, 2, 3, 4);
        Due.lay(x, 1, 5, 6, 7, 8);
        Due.is("as wide and high as it was", x.land(2, 2), 1);
        for (int cell = 0; cell < 4; cell++) {
            Due.is("ground", x.cellOf(cell, 0), 0);
            Due.is("houses", x.cellOf(cell, 1), 0);
        }
        Due.lay(x, 0, 1, 2, 3, 4);
        Due.is("smaller", x.land(1, 1), 1);
        Due.is("larger again", x.land(8, 8), 1);
        for (int cell = 0; cell < 64; cell++) Due.is("ground", x.cellOf(cell, 0), 0);
    }

    @Edge(at = "Promise 2", says = "STATE: there are ENDS")
    private static void promise02ThereAreEnds() {
        DeadStick x = new DeadStick();
        Due.is("none", x.land(4, 4), 1);
        x.keep();
        Due.is("end", x.end(1, 0, 0, 0, 0), 0);
        Due.is("one, a smaller land", x.land(1, 1), STATE);
        Due.is("one, the same land", x.land(4, 4), STATE);
        Due.is("one, a larger land", x.land(8, 8), STATE);
        Due.is("cells stay", x.many(0), 16);
        x.again();
        Due.is("none any more", x.land(8, 8), 1);
    }

    @Edge(at = "Promise 2", says = "THE CRAFT would be beyond")
    private static void promise02TheCraftWouldBeBeyond() {
        DeadStick x = new DeadStick();
        x.craft(0, 11);
        Due.is("twelve by rows", x.land(4, 3), 1);
        Due.is("twelve by columns", x.land(2, 6), 1);
        Due.is("eleven cells are none, ten are", x.land(5, 2), STATE);
        Due.is("nine", x.land(3, 3), STATE);
        Due.is("cells stay", x.many(0), 12);
        Due.is("the craft stays", x.craftOf(0), 11);
        x.craft(0, 1);
        Due.is("the second cell of one", x.land(1, 1), STATE);
        Due.is("the second cell of two", x.land(1, 2), 1);
        x.craft(0, 0);
        Due.is("the first cell of one", x.land(1, 1), 1);
    }

    @Edge(at = "Promise 2", says = "BAD; STATE")
    private static void promise02BadAheadOfState() {
        DeadStick x = new DeadStick();
        x.craft(0, 63);
        Due.is("the craft beyond, no such land", x.land(0, 1), BAD);
        Due.is("the craft beyond, no such land", x.land(1, 9), BAD);
        x.end(1, 0, 0, 0, 0);
        Due.is("ENDS, no such land", x.land(9, 8), BAD);
        Due.is("ENDS, no such land", x.land(8, 0), BAD);
        Due.is("both", x.land(1, 1), STATE);
    }

    // ---- promise 3

    @Edge(at = "Promise 3", says = "BAD: no such SHEET, what;")
    private static void promise03NoSuchSheetOrWhat() {
        DeadStick x = new DeadStick();
        x.land(1, 1);
        for (int sheet = 0; sheet <= 3; sheet++) {
            Due.fill(x, sheet, 0, sheet + 1);
            Due.is("lay", x.lay(sheet, 0), 1);
            Due.is("ground", x.cellOf(0, 0), sheet + 1);
            Due.is("lay", x.lay(sheet, 1), 1);
            Due.is("houses", x.cellOf(0, 1), sheet + 1);
        }
        for (int what = 0; what <= 1; what++) {
            int w = what;
            Due.beyond("lay of sheet", sheet -> x.lay(sheet, w), 0, 3, BAD);
        }
        for (int sheet = 0; sheet <= 3; sheet += 3) {
            int s = sheet;
            Due.beyond("lay of what", what -> x.lay(s, what), 0, 1, BAD);
        }
    }

    @Edge(at = "Promise 3", says = "-13; -11;")
    private static void promise03AnotherKindOrNothing() {
        DeadStick x = new DeadStick();
        x.land(1, 1);
        Due.is("missing at first", x.lay(0, 0), NOTHING);
        for (int sort = 1; sort <= 4; sort++) {
            x.sheet(0, sort, 1);
            Due.is("of sort " + sort, x.lay(0, 0), KIND);
        }
        x.sheet(0, 0, 1);
        Due.is("bytes", x.lay(0, 0), 1);
        x.sheet(0, -1, 1);
        Due.is("missing again", x.lay(0, 1), NOTHING);
    }

    @Edge(at = "Promise 3", says = "STATE: it hasn't as many numbers as there are cells")
    private static void promise03AsManyNumbersAsCells() {
        DeadStick x = new DeadStick();
        x.sheet(0, 0, 63);
        Due.is("63 of 64", x.lay(0, 0), STATE);
        x.sheet(0, 0, 64);
        Due.is("64 of 64", x.lay(0, 0), 1);
        x.land(3, 2);
        int[] dues = {STATE, STATE, STATE, STATE, STATE, STATE, 1, STATE, STATE};
        for (int n = 0; n < dues.length; n++) {
            x.sheet(0, 0, n);
            Due.is(n + " of 6", x.lay(0, 1), dues[n]);
        }
        x.land(1, 1);
        x.sheet(0, 0, 0);
        Due.is("0 of 1", x.lay(0, 0), STATE);
        x.sheet(0, 0, 1);
        Due.is("1 of 1", x.lay(0, 0), 1);
    }

    @Edge(at = "Promise 3", says = "each 0 to 99")
    private static void promise03EachNumberIs0To99() {
        DeadStick x = new DeadStick();
        x.land(3, 1);
        for (int what = 0; what <= 1; what++) {
            Due.lay(x, what, 0, 99, 7);
            for (int place = 0; place < 3; place++) {
                for (int bad : new int[] {-1, 100, 127, -128}) {
                    Due.fill(x, 0, 0, 1, 1, 1);
                    x.put(0, place, bad);
                    Due.is(bad + " at " + place, x.lay(0, what), STATE);
                }
            }
            int[] stay = {0, 99, 7};
            for (int cell = 0; cell < 3; cell++) Due.is("nothing changed", x.cellOf(cell, what), stay[cell]);
        }
    }

    @Edge(at = "Promise 3", says = "BAD: no such SHEET, what; -13; -11; STATE")
    private static void promise03TheFirstNamed() {
        DeadStick x = new DeadStick();
        Due.is("a missing one, no such what", x.lay(0, 2), BAD);
        x.sheet(1, 1, 64);
        Due.is("shorts, no such what", x.lay(1, 2), BAD);
        x.sheet(2, 0, 3);
        Due.is("three of 64, no such what", x.lay(2, -1), BAD);
        Due.is("no such sheet, no such what", x.lay(4, 2), BAD);
        x.sheet(1, 1, 3);
        Due.is("three shorts of 64", x.lay(1, 0), KIND);
        Due.fill(x, 1, 1, 100);
        Due.is("a short of 100", x.lay(1, 0), KIND);
        Due.is("missing, so no numbers", x.lay(0, 0), NOTHING);
    }

    @Edge(at = "Promise 3", says = "GROUND (what 0), HOUSES (1) of all cells from a SHEET taken for bytes: 1.")
    private static void promise03TheSheetIsCopied() {
        DeadStick x = new DeadStick();
        x.land(2, 1);
        Due.fill(x, 0, 0, 5, 6);
        Due.is("ground", x.lay(0, 0), 1);
        x.put(0, 0, 9);
        Due.is("ground stays", x.cellOf(0, 0), 5);
        Due.is("houses are as they were", x.cellOf(0, 1), 0);
        Due.is("houses", x.lay(0, 1), 1);
        Due.is("houses", x.cellOf(0, 1), 9);
        Due.is("ground is as it was", x.cellOf(0, 0), 5);
        Due.is("the sheet stays", x.item(0, 0, 1), 6);
    }

    // ---- promises 4 to 7

    @Edge(at = "Promise 4", says = "what = 0 GROUND, 1 HOUSES. BAD.")
    private static void promise04NoSuchCellOrWhat() {
        DeadStick x = new DeadStick();
        Due.is("the last", x.cellOf(63, 1), 0);
        Due.beyond("cellOf", cell -> x.cellOf(cell, 0), 0, 63, BAD);
        x.land(2, 2);
        Due.lay(x, 0, 1, 2, 3, 4);
        Due.lay(x, 1, 5, 6, 7, 8);
        for (int what = 0; what <= 1; what++) {
            int w = what;
            Due.is("the first", x.cellOf(0, what), 1 + 4 * what);
            Due.is("the last", x.cellOf(3, what), 4 + 4 * what);
            Due.beyond("cellOf of four", cell -> x.cellOf(cell, w), 0, 3, BAD);
        }
        Due.beyond("what", what -> x.cellOf(0, what), 0, 1, BAD);
        Due.beyond("what", what -> x.cellOf(3, what), 0, 1, BAD);
    }

    @Edge(at = "Promise 5", says = "what = 0 its cell, 1 HEADING, 2 SPEED, 3 HEIGHT becomes v: what it was. BAD.")
    private static void promise05NoSuchWhatOrNumber() {
        DeadStick x = new DeadStick();
        x.land(4, 4);
        int[] was = {0, 1, 1, 60};
        int[] most = {15, 3, 2, 99};
        for (int what = 0; what <= 3; what++) {
            int w = what;
            Due.is("most", x.craft(what, most[what]), was[what]);
            Due.is("least", x.craft(what, 0), most[what]);
            Due.beyond("craft " + what, v -> x.craft(w, v), 0, most[what], BAD);
            Due.is("a refused one changes nothing", x.craftOf(what), 0);
        }
        Due.beyond("what", what -> x.craft(what, 0), 0, 3, BAD);
        Due.beyond("what", what -> x.craft(what, 1), 0, 3, BAD);
        Due.is("TICK is none of these", x.craftOf(4), 0);
    }

    @Edge(at = "Promise 6", says = "5 1 if DOWN, else 0")
    private static void promise06Down1Else0() {
        DeadStick x = new DeadStick();
        x.craft(3, 1);
        Due.is("1 over 0", x.craftOf(5), 0);
        x.craft(3, 0);
        Due.is("0 over 0", x.craftOf(5), 1);
    }

    @Edge(at = "Promise 6", says = "-9: it is not DOWN, or none")
    private static void promise06NotDownOrNone() {
        DeadStick x = new DeadStick();
        x.craft(3, 0);
        Due.is("DOWN, no ENDS", x.craftOf(6), -9);
        x.end(1, 1, 0, 2, 0);
        Due.is("DOWN, an END at another cell", x.craftOf(6), -9);
        x.end(1, 0, 0, 0, 0);
        x.end(1, 0, 2, 2, 0);
        Due.is("DOWN, ENDS for other SPEEDS", x.craftOf(6), -9);
        x.end(1, 0, 1, 1, 0);
        Due.is("DOWN, an END for its SPEED", x.craftOf(6), 3);
        x.craft(3, 1);
        Due.is("not DOWN", x.craftOf(6), -9);
        x.craft(0, 1);
        x.craft(3, 0);
        Due.is("the first END is number 0", x.craftOf(6), 0);
    }

    @Edge(at = "Promise 6", says = "or none). BAD.")
    private static void promise06NoSuchWhat() {
        DeadStick x = new DeadStick();
        int[] dues = {0, 1, 1, 60, 0, 0, -9};
        for (int what = 0; what <= 6; what++) Due.is("craftOf " + what, x.craftOf(what), dues[what]);
        Due.beyond("craftOf", x::craftOf, 0, 6, BAD);
    }

    @Edge(at = "Promise 7", says = "what = 0 to 2 SINK of that SPEED, 3 TURN, 4 CHANGE, 5 to 8 WIND of HEADING what - 5 becomes v: what it was. BAD.")
    private static void promise07NoSuchWhatOrNumber() {
        DeadStick x = new DeadStick();
        int[] least = {1, 1, 1, 0, 0, 0, 0, 0, 0};
        int[] most = {9, 9, 9, 9, 9, 5, 5, 5, 5};
        int[] was = {3, 2, 4, 2, 1, 0, 0, 0, 0};
        for (int what = 0; what <= 8; what++) {
            int w = what;
            Due.is("least of " + what, x.table(what, least[what]), was[what]);
            Due.is("most of " + what, x.table(what, most[what]), least[what]);
            Due.beyond("table " + what, v -> x.table(w, v), least[what], most[what], BAD);
            Due.is("a refused one changes nothing", x.table(what, was[what]), most[what]);
        }
        Due.beyond("what", what -> x.table(what, 1), 0, 8, BAD);
        Due.beyond("what", what -> x.table(what, 5), 0, 8, BAD);
    }

    // ---- promises 8 and 9

    @Edge(at = "Promise 8", says = "BAD: no ACT;")
    private static void promise08NoAct() {
        DeadStick x = new DeadStick();
        Due.beyond("fly", x::fly, 0, 8, BAD);
        x.craft(0, 27);
        Due.is("the least", x.fly(0), 54);
        Due.is("the most", x.fly(8), 54 - 2 - 2 - 1);
        Due.is("TICK", x.craftOf(4), 2);
    }

    @Edge(at = "Promise 8", says = "STATE: it MAY not BE")
    private static void promise08ItMayNotBe() {
        DeadStick x = new DeadStick();
        x.craft(0, 7);
        Due.is("off the land", x.fly(4), STATE);
        x.craft(0, 27);
        x.craft(2, 2);
        Due.is("faster than fast", x.fly(5), STATE);
        x.craft(2, 0);
        Due.is("slower than slow", x.fly(3), STATE);
        x.craft(3, 0);
        Due.is("DOWN", x.fly(4), STATE);
        int[] stay = {27, 1, 0, 0, 0};
        for (int what = 0; what < 5; what++) Due.is("nothing changed", x.craftOf(what), stay[what]);
        x.craft(3, 1);
        Due.is("not DOWN", x.fly(4), 0);
        Due.is("TICK", x.craftOf(4), 1);
    }

    @Edge(at = "Promise 8", says = "or TICK is 200")
    private static void promise08TickIs200() {
        DeadStick x = atTick200();
        for (int act = 0; act <= 8; act++) Due.is("fly " + act, x.fly(act), STATE);
        int[] stay = {0, 1, 1, 60, 200};
        for (int what = 0; what < 5; what++) Due.is("nothing changed", x.craftOf(what), stay[what]);
    }

    @Edge(at = "Promise 8", says = "BAD: no ACT; STATE")
    private static void promise08BadAheadOfState() {
        DeadStick x = new DeadStick();
        x.craft(3, 0);
        Due.is("no ACT, DOWN", x.fly(9), BAD);
        Due.is("no ACT, DOWN", x.fly(-1), BAD);
        DeadStick y = atTick200();
        Due.is("no ACT, TICK is 200", y.fly(9), BAD);
        Due.is("no ACT, TICK is 200", y.fly(-1), BAD);
    }

    @Edge(at = "Promise 9", says = "Which ACTS MAY BE now, as bits.")
    private static void promise09NoneToAllOfNine() {
        DeadStick x = new DeadStick();
        x.craft(0, 27);
        Due.is("all", x.acts(), 511);
        x.craft(3, 0);
        Due.is("none", x.acts(), 0);
        DeadStick y = new DeadStick();
        y.land(2, 2);
        Due.is("from the corner to the east: straight or right, not fast", y.acts(), 8 + 16 + 64 + 128);
        y.craft(0, 1);
        Due.is("at the border: right, not fast", y.acts(), 64 + 128);
        y.craft(2, 0);
        Due.is("slow at the border: right, even or none of both", y.acts(), 128 + 256);
        y.craft(2, 2);
        Due.is("fast at the border: right and slower", y.acts(), 64);
    }
}
