/** Promises 1 to 9: a new object, the land, the craft, the tables, acts. */
public final class CraftTest {
    private static final int BAD = -1, STATE = -4;

    public static void main(String[] args) {
        promise1New();
        promise2Land();
        promise3Lay();
        promise4CellOf();
        promise5Craft();
        promise6CraftOf();
        promise7Table();
        promise8Fly();
        promise8Tick200();
        promise9Acts();
        Due.end();
    }

    private static void promise1New() {
        DeadStick x = new DeadStick();
        int[] craft = {0, 1, 1, 60, 0, 0, -9};
        for (int i = 0; i < 7; i++) Due.is("new: craftOf " + i, x.craftOf(i), craft[i]);
        Due.is("new: cells", x.many(0), 64);
        for (int i = 1; i <= 10; i++) Due.is("new: many " + i, x.many(i), 0);
        for (int i = 0; i < 64; i++) {
            Due.is("new: ground", x.cellOf(i, 0), 0);
            Due.is("new: houses", x.cellOf(i, 1), 0);
        }
        int[] tables = {3, 2, 4, 2, 1, 0, 0, 0, 0};
        for (int i = 0; i < 9; i++) Due.is("new: table " + i, x.table(i, tables[i]), tables[i]);
        Due.is("new: again", x.again(), -3);
        for (int i = 0; i < 4; i++) {
            Due.is("new: sheet is missing", x.put(i, 0, 0), -11);
            Due.is("new: shelf has nothing", x.taken(i, 0), -11);
        }
        Due.is("new: hand", x.hand(), 4);
        Due.is("new: can", x.can(), 0);
        Due.is("new: bestEnd", x.bestEnd(), -3);
        Due.is("new: bestPlan", x.bestPlan(), -3);
        Due.is("new: worth", x.worth(0), 0);
        Due.is("new: worth", x.worth(1), 0);
        Due.is("new: shared", x.shared(0), 0);
        Due.is("new: shared", x.shared(1), 0);
        Due.is("new: trace", x.trace(0), -3);
        Due.is("new: judge", x.judge(), 99);
    }

    private static void promise2Land() {
        DeadStick x = new DeadStick();
        Due.is("land", x.land(0, 1), BAD);
        Due.is("land", x.land(1, 0), BAD);
        Due.is("land", x.land(9, 8), BAD);
        Due.is("land", x.land(8, 9), BAD);
        Due.is("land", x.land(-1, Integer.MIN_VALUE), BAD);
        Due.is("land", x.land(1, 1), 1);
        Due.is("cells", x.many(0), 1);
        Due.is("nowhere to go", x.acts(), 0);
        Due.is("land", x.land(3, 2), 1);
        Due.fill(x, 0, 0, 1, 2, 3, 4, 5, 6);
        Due.is("lay", x.lay(0, 0), 1);
        Due.is("lay", x.lay(0, 1), 1);
        Due.is("land anew", x.land(3, 2), 1);
        for (int i = 0; i < 6; i++) {
            Due.is("flat again", x.cellOf(i, 0), 0);
            Due.is("empty again", x.cellOf(i, 1), 0);
        }
        Due.is("craft to the last cell", x.craft(0, 5), 0);
        Due.is("just beyond", x.land(5, 1), STATE);
        Due.is("beyond, though not by one line", x.land(2, 2), STATE);
        Due.is("just within", x.land(6, 1), 1);
        Due.is("just within", x.land(2, 3), 1);
        Due.is("just within", x.land(6, 1), 1);
        Due.is("craft stays", x.craftOf(0), 5);
        Due.is("end", x.end(1, 0, 0, 2, 0), 0);
        Due.is("ends hinder", x.land(6, 1), STATE);
        Due.is("bad first", x.land(9, 1), BAD);
        Due.is("cells stay", x.many(0), 6);
    }

    private static void promise3Lay() {
        DeadStick x = new DeadStick();
        x.land(2, 2);
        Due.is("no such sheet", x.lay(4, 0), BAD);
        Due.is("no such sheet", x.lay(-1, 0), BAD);
        Due.is("missing", x.lay(0, 0), -11);
        Due.is("bad what of a missing one", x.lay(0, 2), BAD);
        Due.is("bad what", x.lay(0, -1), BAD);
        for (int sort = 1; sort < 5; sort++) {
            x.sheet(0, sort, 4);
            Due.is("of sort " + sort, x.lay(0, 0), -13);
        }
        Due.fill(x, 0, 0, 0, 99, 5, 7);
        Due.is("lay ground", x.lay(0, 0), 1);
        Due.fill(x, 1, 0, 9, 8, 0, 99);
        Due.is("lay houses", x.lay(1, 1), 1);
        int[] ground = {0, 99, 5, 7};
        int[] houses = {9, 8, 0, 99};
        for (int i = 0; i < 4; i++) {
            Due.is("ground " + i, x.cellOf(i, 0), ground[i]);
            Due.is("houses " + i, x.cellOf(i, 1), houses[i]);
        }
        Due.fill(x, 1, 0, 1, 1, 1, 100);
        Due.is("100", x.lay(1, 0), STATE);
        Due.fill(x, 1, 0, 1, 1, -1, 1);
        Due.is("-1", x.lay(1, 0), STATE);
        Due.fill(x, 1, 0, 1, 1, 1);
        Due.is("three", x.lay(1, 0), STATE);
        Due.fill(x, 1, 0, 1, 1, 1, 1, 1);
        Due.is("five", x.lay(1, 0), STATE);
        Due.is("ground stays", x.cellOf(0, 0), 0);
    }

    private static void promise4CellOf() {
        DeadStick x = new DeadStick();
        x.land(2, 1);
        Due.is("cellOf", x.cellOf(-1, 0), BAD);
        Due.is("cellOf", x.cellOf(2, 0), BAD);
        Due.is("cellOf", x.cellOf(1, 2), BAD);
        Due.is("cellOf", x.cellOf(1, -1), BAD);
        Due.is("cellOf", x.cellOf(1, 1), 0);
    }

    private static void promise5Craft() {
        DeadStick x = new DeadStick();
        x.land(3, 2);
        int[] most = {5, 3, 2, 99};
        int[] was = {0, 1, 1, 60};
        for (int what = 0; what < 4; what++) {
            Due.is("below", x.craft(what, -1), BAD);
            Due.is("above", x.craft(what, most[what] + 1), BAD);
            Due.is("most", x.craft(what, most[what]), was[what]);
            Due.is("told", x.craftOf(what), most[what]);
            Due.is("least", x.craft(what, 0), most[what]);
            Due.is("told", x.craftOf(what), 0);
        }
        Due.is("craft", x.craft(4, 0), BAD);
        Due.is("craft", x.craft(-1, 0), BAD);
        Due.is("tick", x.craftOf(4), 0);
    }

    private static void promise6CraftOf() {
        DeadStick x = new DeadStick();
        x.land(2, 1);
        Due.is("craftOf", x.craftOf(7), BAD);
        Due.is("craftOf", x.craftOf(-1), BAD);
        Due.fill(x, 0, 0, 20, 0);
        x.lay(0, 0);
        x.end(1, 1, 0, 2, 1);
        x.end(1, 0, 0, 0, 1);
        x.end(1, 0, 1, 2, 2);
        x.end(1, 0, 1, 1, 3);
        x.craft(3, 21);
        Due.is("one above ground", x.craftOf(5), 0);
        Due.is("not down: no end", x.craftOf(6), -9);
        x.craft(3, 20);
        Due.is("at ground", x.craftOf(5), 1);
        Due.is("first end that is good", x.craftOf(6), 2);
        x.craft(2, 0);
        Due.is("slow", x.craftOf(6), 1);
        x.craft(0, 1);
        Due.is("above the other cell", x.craftOf(5), 0);
        x.craft(3, 0);
        Due.is("its end", x.craftOf(6), 0);
        x.craft(0, 0);
        x.craft(3, 3);
        Due.is("below ground", x.craftOf(5), 1);
        DeadStick y = new DeadStick();
        y.craft(3, 0);
        Due.is("down without ends", y.craftOf(6), -9);
    }

    private static void promise7Table() {
        DeadStick x = new DeadStick();
        int[] was = {3, 2, 4, 2, 1, 0, 0, 0, 0};
        for (int what = 0; what < 9; what++) {
            int least = what < 3 ? 1 : 0;
            int most = what < 5 ? 9 : 5;
            Due.is("below", x.table(what, least - 1), BAD);
            Due.is("above", x.table(what, most + 1), BAD);
            Due.is("most", x.table(what, most), was[what]);
            Due.is("least", x.table(what, least), most);
            Due.is("back", x.table(what, was[what]), least);
        }
        Due.is("table", x.table(9, 1), BAD);
        Due.is("table", x.table(-1, 1), BAD);
        // from the middle to the east, slow: SINK 5, WIND of the east 4, TURN 7 and CHANGE 6 where they are due
        int[] tables = {5, 9, 9, 7, 6, 1, 4, 2, 3};
        for (int what = 0; what < 9; what++) x.table(what, tables[what]);
        x.craft(0, 27);
        x.craft(2, 0);
        Due.is("straight", x.fly(4), 60 - 5 - 4);
        Due.is("right to the south", x.fly(7), 51 - 5 - 2 - 7);
        Due.is("faster", x.fly(5), 37 - 9 - 2 - 6);
        Due.is("right to the west, slower: 5, 3, 7 and 6 are more than 20", x.fly(6), 0);
    }

    private static void promise8Fly() {
        DeadStick x = new DeadStick();
        Due.is("fly", x.fly(-1), BAD);
        Due.is("fly", x.fly(9), BAD);
        x.craft(0, 27);
        x.craft(1, 0);
        Due.is("left from north is west", x.fly(1), 60 - 2 - 2);
        Due.is("heading", x.craftOf(1), 3);
        Due.is("cell", x.craftOf(0), 26);
        Due.is("right from west is north", x.fly(7), 56 - 2 - 2);
        Due.is("heading", x.craftOf(1), 0);
        Due.is("cell", x.craftOf(0), 18);
        Due.is("faster goes two cells", x.fly(5), 52 - 4 - 1);
        Due.is("cell", x.craftOf(0), 2);
        Due.is("off", x.fly(4), STATE);
        Due.is("nothing changed", x.craftOf(4), 3);
        Due.is("nor turned", x.craftOf(1), 0);
        Due.is("faster than fast", x.fly(8), STATE);
        Due.is("two to the west", x.fly(1), 47 - 4 - 2);
        Due.is("cell", x.craftOf(0), 0);
        x.craft(1, 1);
        x.craft(2, 0);
        Due.is("slower than slow", x.fly(3), STATE);
        Due.is("slow goes one cell", x.fly(4), 41 - 3);
        Due.is("cell", x.craftOf(0), 1);
        x.craft(0, 36);
        Due.is("left and slower from fast", x.craft(2, 2), 0);
        Due.is("left and slower", x.fly(0), 38 - 2 - 2 - 1);
        Due.is("cell", x.craftOf(0), 28);
        x.craft(3, 1);
        Due.is("0 at least", x.fly(4), 0);
        Due.is("down", x.fly(4), STATE);
        Due.is("tick", x.craftOf(4), 7);
        DeadStick y = new DeadStick();
        y.land(2, 1);
        y.craft(2, 2);
        Due.is("two cells, the second is off", y.fly(4), STATE);
        Due.is("one cell is on", y.fly(3), 60 - 2 - 1);
    }

    private static void promise8Tick200() {
        DeadStick x = new DeadStick();
        x.land(2, 2);
        x.table(1, 1);
        x.table(3, 0);
        Due.is("to the east", x.fly(4), 59);
        for (int i = 1; i < 200; i++) {
            x.craft(3, 60);
            Due.is("round", x.fly(7), 59);
        }
        Due.is("tick", x.craftOf(4), 200);
        Due.is("no more", x.fly(7), STATE);
        Due.is("bad first", x.fly(9), BAD);
        Due.is("may be all the same", x.acts() >> 7 & 1, 1);
        Due.fill(x, 0, 2, 7, 7);
        Due.is("flies", x.flies(0, 0, 2), 0);
        Due.is("tick", x.craftOf(4), 200);
        Due.is("flight in thought goes on", Due.read(x, "right if tick > 199 and tick < 203;"), 1);
        // three rounds to the right, then straight off the land or on by one cell
        Due.is("ruled", x.ruled(2), 3);
        Due.is("tick is told", x.line(0, 1), 1);
    }

    private static void promise9Acts() {
        DeadStick x = new DeadStick();
        x.craft(0, 27);
        Due.is("all of an even one in the middle", x.acts(), 511);
        x.craft(2, 0);
        Due.is("slow: none slower", x.acts(), 511 - 1 - 8 - 64);
        x.craft(2, 2);
        Due.is("fast: none faster", x.acts(), 511 - 4 - 32 - 256);
        x.craft(0, 0);
        x.craft(2, 1);
        x.craft(1, 0);
        Due.is("in the corner to the north: only right", x.acts(), 64 + 128 + 256);
        x.craft(1, 2);
        Due.is("to the south: left and straight", x.acts(), 1 + 2 + 4 + 8 + 16 + 32);
        x.craft(0, 48);
        Due.is("one cell from the south: not straight by two", x.acts(), 1 + 2 + 4 + 8 + 16);
        x.craft(3, 0);
        Due.is("down", x.acts(), 0);
    }
}
