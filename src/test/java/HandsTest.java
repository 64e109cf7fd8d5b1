/** Promises 23 to 31: hands read from texts, ruled flight, rows and their reader. */
public final class HandsTest {
    private static final int BAD = -1, FULL = -2, NONE = -3;

    public static void main(String[] args) {
        promise23Feed();
        promise24Read();
        promise24Faults();
        promise24TenLines();
        promise24HandsStay();
        promise25Line();
        promise25Joined();
        promise25Values();
        promise26Hand();
        promise27Ruled();
        promise28Prove();
        promises29To30Rows();
        promise31Judge();
        promise31TooEarly();
        Due.end();
    }

    private static void promise23Feed() {
        DeadStick x = new DeadStick();
        Due.is("feed", x.feed(0, 0), BAD);
        Due.is("feed", x.feed(0, 9), BAD);
        Due.is("feed", x.feed(0, -1), BAD);
        // "left if " by the lowest byte first, of more than n bytes those above are left away
        Due.is("feed", x.feed(0x206669207466656CL, 8), 8);
        Due.is("feed", x.feed(0x7F7F7F7F7F313D31L, 3), 11);
        Due.is("feed", x.feed(';', 1), 12);
        Due.is("bytes", x.many(9), 12);
        Due.is("read", x.read(), 1);
        Due.is("used up", x.many(9), 0);
        for (int i = 1; i <= 29; i++) Due.is("feed", x.feed(0x2020202020202020L, 8), 8 * i);
        Due.is("feed", x.feed(0x20202020202020L, 7), 239);
        Due.is("241", x.feed(0x2020, 2), FULL);
        Due.is("bad first", x.feed(0x2020, 9), BAD);
        Due.is("240", x.feed(0x20, 1), 240);
        Due.is("241", x.feed(0x20, 1), FULL);
        Due.is("bytes", x.many(9), 240);
        Due.is("240 blanks", x.read(), 0);
    }

    private static void promise24Read() {
        DeadStick x = new DeadStick();
        String[] good = {
            "", "   ", "left if 1=1;", "  left   if 1 = 1 ;  ", "left if1=1;", "right if height<40;slower if clear>9;",
            "faster if 1=1and 2=2or 3=3;", "left if not not not 1=1;", "left if((((1=1))));", "left if not(1=1);",
            "left if (1=1) and (2=2) or ((3=3) or (4=4)) and (5=5);", "left if 000=0 or 999>7;",
            "left if height<speed and heading=tick and ground>houses and clear=7;",
        };
        int[] lines = {0, 0, 1, 1, 1, 2, 1, 1, 1, 1, 1, 1, 1};
        for (int i = 0; i < good.length; i++) {
            Due.is(good[i], Due.read(x, good[i]), lines[i]);
            Due.is("lines", x.many(4), lines[i]);
        }
    }

    private static void promise24Faults() {
        DeadStick x = new DeadStick();
        String[] bad = {
            "left", "left if 1", "left if 1=1", "left if 1=1  ", "left if 1=1 and", "left if (1=1", "left if not ",
            "if", "left left", "leftif 1=1;", "Left if 1=1;", "left if 1234=1;", "left if 1=0000;", "left if 1==1;",
            "left if 1 2", "left if heigh<3;", "left if heights<3;", "left if or", "left if (1=1;", "left if 1=1);",
            "left if 1=1 and;", "left if 1=1;;", "left if\t1=1;", "left if 1=1; 7", "left if (((((1=1)))));",
            "left if 1=left;", "left if not;", "left if 1=1 not 2=2;", "left if ();", "left if 1<2<3;", "left if 1=1, ",
            "1", ";", "left if 1=-1;", "left if 1=1 and or 2=2;", "left if (1=1) (2=2);", "left if 5;", "left if (5);",
            "left if 1=1 if 1=1;", "up if 1=1;", "left 1=1;", "left if \u00e9", "\u0000", "left if 12a=1;",
        };
        int[] places = {
            4, 9, 11, 13, 15, 12, 12,
            0, 5, 0, 0, 8, 10, 10,
            10, 8, 8, 8, 12, 11,
            15, 12, 7, 13, 12,
            10, 11, 12, 9, 11, 11,
            0, 0, 10, 16, 14, 9, 10,
            12, 0, 5, 8, 0, 10,
        };
        for (int i = 0; i < bad.length; i++) Due.is(bad[i], Due.read(x, bad[i]), -100 - places[i]);
        Due.is("no hands came", x.many(4), 0);
        Due.is("a name up to z", Due.read(x, "leftz if 1=1;"), -100);
        Due.is("59 is the byte ;", Due.read(x, "left if 1=1 0059"), -112);
        Due.is("40 is the byte (", Due.read(x, "left if 0040 1=1);"), -108);
        Due.is("240 bytes", Due.read(x, ";".repeat(240)), -100);
        Due.is("240 letters", Due.read(x, "l".repeat(240)), -100);
        Due.is("232 digits", Due.read(x, "left if " + "1".repeat(232)), -108);
        Due.is("the end of 240", Due.read(x, " ".repeat(229) + "left if 1=1"), -340);
        Due.is("all of 240", Due.read(x, " ".repeat(228) + "left if 1=1;"), 1);
        Due.is("nothing", x.read(), 0);
        Due.is("brackets one behind the other", Due.read(x, "left if ((((1=1)))) and ((((1=1)))) or (1=1);"), 1);
        Due.is("four and a fifth", Due.read(x, "left if ((((1=1)) and ((1=1 and (1=1)))));"), -100 - 32);
    }

    private static void promise24TenLines() {
        DeadStick x = new DeadStick();
        StringBuilder nine = new StringBuilder();
        for (int i = 0; i < 9; i++) nine.append("left if 1=1;");
        Due.is("nine", Due.read(x, nine.toString()), 9);
        Due.is("nine and blanks", Due.read(x, nine + "  "), 9);
        Due.is("the tenth", Due.read(x, nine + "  left if 1=1;"), -100 - 110);
        Due.is("another name", Due.read(x, nine + "x"), -100 - 108);
        Due.is("another byte", Due.read(x, nine + ";"), -100 - 108);
        Due.is("nine stay", x.many(4), 9);
        Due.is("the last", x.line(8, 1), 1);
        Due.is("no tenth", x.line(9, 0), -9);
    }

    private static void promise24HandsStay() {
        DeadStick x = new DeadStick();
        Due.is("read", Due.read(x, "slower if 1=1;"), 1);
        Due.is("fault in the second line", Due.read(x, "faster if 1=1; faster 1=1;"), -100 - 22);
        Due.is("used up", x.many(9), 0);
        Due.is("stays", x.many(4), 1);
        Due.is("stays", x.line(0, 0), 2);
        Due.is("stays", x.hand(), 3);
        Due.is("an empty text", x.read(), 0);
        Due.is("none any more", x.many(4), 0);
        Due.is("straight", x.hand(), 4);
    }

    private static void promise25Line() {
        DeadStick x = new DeadStick();
        Due.is("none", x.line(0, 0), -9);
        Due.read(x, "faster if height<60; slower if height=60; right if height>60; left if height>59;");
        int[] does = {3, 2, 1, 0};
        int[] holds = {0, 1, 0, 1};
        for (int i = 0; i < 4; i++) {
            Due.is("does", x.line(i, 0), does[i]);
            Due.is("holds", x.line(i, 1), holds[i]);
        }
        Due.is("line", x.line(4, 0), -9);
        Due.is("line", x.line(-1, 0), -9);
        Due.is("line", x.line(0, 2), -9);
        Due.is("line", x.line(0, -1), -9);
        x.craft(3, 59);
        Due.is("now", x.line(0, 1), 1);
        Due.is("now", x.line(1, 1), 0);
    }

    private static void holds(DeadStick x, String cond, int due) {
        Due.is(cond, Due.read(x, "left if " + cond + ";"), 1);
        Due.is(cond, x.line(0, 1), due);
    }

    private static void promise25Joined() {
        DeadStick x = new DeadStick();
        holds(x, "1=1 or 1=2 and 1=2", 1);
        holds(x, "(1=1 or 1=2) and 1=2", 0);
        holds(x, "1=1 or 1=2 and 1=1", 1);
        holds(x, "1=2 or 1=1 and 1=1", 1);
        holds(x, "1=2 or 1=2 and 1=1", 0);
        holds(x, "1=2 and 1=2 or 1=1", 1);
        holds(x, "1=2 and (1=2 or 1=1)", 0);
        holds(x, "not 1=1 or 1=1", 1);
        holds(x, "not (1=1 or 1=1)", 0);
        holds(x, "not 1=2 and 1=2", 0);
        holds(x, "not (1=2 and 1=2)", 1);
        holds(x, "not not 1=1", 1);
        holds(x, "not not not 1=1", 0);
        holds(x, "1=1 and 1=1 and 1=2", 0);
        holds(x, "1=2 or 1=2 or 1=1", 1);
        holds(x, "1=2 or 1=1 and (1=2 or 1=1 and (1=2 or 1=1 and (1=2 or 1=1 and (1=1))))".replace("(1=1)", "1=1"), 1);
        holds(x, "1=2 or 1=1 and (1=2 or 1=1 and (1=2 or 1=1 and (1=2 or 1=1 and 1=2)))", 0);
        holds(x, "not (1=1 and not (1=1 and not (1=1 and not (1=1))))", 1);
        holds(x, "not (1=1 and not (1=1 and not (1=1 and not (1=2))))", 0);
        holds(x, "7<7", 0);
        holds(x, "6<7", 1);
        holds(x, "7>7", 0);
        holds(x, "8>7", 1);
        holds(x, "007=7", 1);
        holds(x, "999>998", 1);
    }

    private static void promise25Values() {
        DeadStick x = new DeadStick();
        x.land(2, 1);
        Due.fill(x, 0, 0, 0, 41);
        x.lay(0, 0);
        Due.fill(x, 0, 0, 0, 97);
        x.lay(0, 1);
        x.craft(3, 99);
        x.fly(4);
        x.craft(3, 88);
        x.craft(1, 3);
        x.craft(2, 2);
        String[] names = {"height", "speed", "heading", "tick", "ground", "houses", "clear"};
        int[] values = {88, 2, 3, 1, 41, 97, 47};
        for (int i = 0; i < names.length; i++) {
            holds(x, names[i] + "=" + values[i], 1);
            holds(x, values[i] + "=" + names[i], 1);
            holds(x, names[i] + "<" + values[i], 0);
            holds(x, names[i] + ">" + (values[i] - 1), 1);
        }
        x.craft(3, 40);
        holds(x, "clear=0", 1);
    }

    private static void promise26Hand() {
        DeadStick x = new DeadStick();
        x.craft(0, 27);
        Due.read(x, "left if 1=2; right if 1=1; left if 1=1;");
        Due.is("the first that holds", x.hand(), 7);
        Due.read(x, "faster if 1=2; slower if 1=1; faster if 1=1; left if 1=1;");
        Due.is("of each two the first", x.hand(), 0);
        Due.read(x, "right if 1=1; faster if 1=1;");
        Due.is("both", x.hand(), 8);
        x.craft(2, 2);
        Due.is("may not be: straight", x.hand(), 4);
        x.craft(0, 7);
        Due.is("straight may not be either", x.hand(), NONE);
        x.craft(0, 27);
        x.craft(3, 0);
        Due.is("down", x.hand(), NONE);
        DeadStick y = new DeadStick();
        Due.read(y, "left if 1=1;");
        Due.is("left is off the land", y.hand(), 4);
        y.craft(0, 63);
        Due.is("left is on it", y.hand(), 1);
    }

    private static void ruled(String call, DeadStick x, int... due) {
        for (int i = 0; i < 5; i++) Due.is(call + ": ruled " + i, x.ruled(i), due[i]);
    }

    private static void promise27Ruled() {
        DeadStick x = new DeadStick();
        Due.is("ruled", x.ruled(-1), BAD);
        Due.is("ruled", x.ruled(5), BAD);
        ruled("no hands: straight to the border", x, -9, 7, 7, 999, 0);
        Due.read(x, "right if tick=3;");
        ruled("the tick goes on", x, -9, 59, 10, 999, 0);
        x.scene(1, 9, 0, 20);
        x.craft(3, 20);
        // 14 at 3, 10 at 11, 8, 6, 4, 2, 0 at 51: no engine
        ruled("down", x, -9, 51, 9, 999, 1);
        x.end(1, 51, 1, 1, 55);
        ruled("to an end", x, 0, 51, 9, 55, 1);
        Due.is("now is as it was", x.craftOf(4), 0);
        DeadStick y = new DeadStick();
        Due.read(y, "right if 1=1;");
        y.table(3, 0);
        y.table(1, 1);
        y.craft(3, 99);
        // right from the first cell is south, then west is off: straight to the south; later on round and round
        Due.is("60 ticks at most", y.ruled(2), 7);
        y.craft(0, 27);
        ruled("60 ticks at most", y, -9, 27, 60, 999, 0);
        y.craft(3, 60);
        ruled("down in the sixtieth", y, -9, 27, 60, 999, 1);
        y.craft(3, 61);
        ruled("not down in the sixtieth", y, -9, 27, 60, 999, 0);
        y.craft(3, 0);
        ruled("down now", y, -9, 27, 0, 999, 1);
    }

    private static void rows(String call, DeadStick x, int... due) {
        Due.is(call + ": rows", x.many(8), due.length / 2);
        for (int i = 0; i < due.length; i++) Due.is(call + ": row " + i / 2, x.row(i / 2, i % 2), due[i]);
        Due.is(call + ": no more", x.row(due.length / 2, 0), -9);
    }

    private static void promise28Prove() {
        DeadStick x = new DeadStick();
        x.land(4, 2);
        Due.is("prove", x.prove(0), BAD);
        // left may not be: 58 at 1 by the straight one; faster 53 at 3; right is off by two, and so is straight
        Due.plan(x, 1, 5, 7, 4);
        Due.is("prove", x.prove(0), 2);
        rows("taken as straight", x, 4, 58, 5, 53);
        Due.is("prove", x.prove(-1), BAD);
        Due.is("prove", x.prove(1), BAD);
        rows("stay", x, 4, 58, 5, 53);
        x.scene(1, 9, 0, 20);
        x.craft(3, 4);
        Due.is("prove", x.prove(0), 2);
        rows("without engine", x, 4, 2, 5, 0);
        x.craft(3, 0);
        Due.is("none", x.prove(0), 0);
        rows("none", x);
        DeadStick y = new DeadStick();
        int[] round = new int[20];
        java.util.Arrays.fill(round, 7);
        y.craft(0, 35);
        y.craft(3, 99);
        y.table(3, 0);
        y.table(1, 1);
        Due.plan(y, round);
        // behind 20 turns at 35 to the east, then four on to the border
        Due.is("20 and 4", y.prove(0), 24);
        Due.is("the last of the plan", y.row(19, 0), 7);
        Due.is("then straight", y.row(20, 0), 4);
        Due.is("the last", y.row(23, 1), 75);
    }

    private static void promises29To30Rows() {
        DeadStick x = new DeadStick();
        x.land(3, 1);
        Due.is("row", x.row(0, 0), -9);
        Due.is("alterRow", x.alterRow(0, 0, 1), -9);
        Due.plan(x);
        x.prove(0);
        rows("two", x, 4, 58, 4, 56);
        Due.is("row", x.row(-1, 0), -9);
        Due.is("row", x.row(0, 2), -9);
        Due.is("row", x.row(0, -1), -9);
        Due.is("alterRow", x.alterRow(2, 0, 1), -9);
        Due.is("alterRow", x.alterRow(-1, 0, 1), -9);
        Due.is("alterRow", x.alterRow(0, 2, 1), -9);
        Due.is("alterRow", x.alterRow(0, -1, 1), -9);
        Due.is("alterRow", x.alterRow(0, 1, Integer.MIN_VALUE), 58);
        Due.is("alterRow", x.alterRow(1, 0, 77), 4);
        rows("altered", x, 4, Integer.MIN_VALUE, 77, 56);
    }

    private static void promise31Judge() {
        DeadStick x = new DeadStick();
        x.land(4, 1);
        Due.is("no rows, but it could go on", x.judge(), 99);
        Due.plan(x);
        x.prove(0);
        Due.is("right", x.judge(), 0);
        x.alterRow(2, 1, 55);
        Due.is("the third's height", x.judge(), 3);
        x.alterRow(1, 0, 5);
        Due.is("the second's height is another by its act", x.judge(), 2);
        x.alterRow(1, 0, 1);
        Due.is("the second's act may not be", x.judge(), 2);
        x.alterRow(0, 0, -1);
        Due.is("no act", x.judge(), 1);
        x.alterRow(0, 0, 9);
        Due.is("no act", x.judge(), 1);
        x.prove(0);
        x.craft(3, 61);
        Due.is("from now on", x.judge(), 1);
        x.craft(3, 60);
        x.craft(0, 1);
        Due.is("from a cell on", x.judge(), 3);
        x.craft(0, 0);
        Due.is("right again", x.judge(), 0);
        x.craft(0, 3);
        x.prove(0);
        Due.is("nowhere to go from the last cell", x.many(8), 0);
        Due.is("right", x.judge(), 0);
        x.craft(0, 2);
        Due.is("too early", x.judge(), 99);
        x.craft(3, 0);
        Due.is("down", x.judge(), 0);
        Due.is("thought changes nothing", x.craftOf(4), 0);
    }

    /** A PLAN of 20 ACTS and straight flight on 8 by 8 cells never fills 30 ROWS, so the end is always looked at. */
    private static void promise31TooEarly() {
        DeadStick x = new DeadStick();
        int[] round = new int[20];
        java.util.Arrays.fill(round, 7);
        x.craft(0, 19);
        x.craft(3, 99);
        x.table(3, 0);
        x.table(1, 1);
        Due.plan(x, round);
        Due.is("20 and 4", x.prove(0), 24);
        Due.is("right", x.judge(), 0);
        // right in the place of straight costs the same, but to the south there is one cell more behind the rows
        x.alterRow(20, 0, 7);
        Due.is("too early", x.judge(), 99);
    }
}
