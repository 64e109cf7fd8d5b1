import java.util.ArrayList;
import java.util.List;

/** An object that is as full as it can be, with nothing as at first, and all that can be seen of an object. */
final class Filled {
    private Filled() {
    }

    /** Six cells; what is kept is one less of each and otherwise different from what is now; about 160 calls. */
    static DeadStick make() {
        DeadStick x = withoutTape();
        Due.feed(x, " ".repeat(200) + "=" + " ".repeat(39));
        return x;
    }

    static DeadStick withoutTape() {
        DeadStick x = new DeadStick();
        x.land(3, 2);
        Due.lay(x, 0, 1, 2, 3, 0, 2, 1);
        Due.lay(x, 1, 9, 8, 7, 6, 5, 4);
        for (int what = 0; what < 9; what++) x.table(what, 1 + what % 4);
        x.fly(4);
        things(x, 0);
        Due.read(x, "right if tick=2;slower if height<50;");
        x.keep();
        things(x, 1);
        x.craft(0, 4);
        x.craft(1, 0);
        x.craft(2, 0);
        x.craft(3, 44);
        x.table(0, 7);
        Due.read(x, "left if height=44;faster if clear>1;right if tick=1;");
        x.prove(0);
        x.alterRow(0, 1, 77);
        sheets(x);
        x.shelf(0, 0, 7);
        x.shelf(1, 1, 4);
        x.shelf(2, 2, 2);
        x.ask(0, 3, 5);
        return x;
    }

    /** All things but the last of each (0), or the last ones (1). */
    private static void things(DeadStick x, int last) {
        for (int i = 7 * last; i < 7 + last; i++) x.end(1 + i % 5, i % 6, i % 2, 2, 100 + i);
        Due.fill(x, 3, 1, 4, 5);
        for (int i = 3 * last; i < 3 + last; i++) {
            x.put(3, 0, 4 + i);
            x.plan(3);
        }
        for (int i = 4 * last; i < 4 + last; i++) x.scene(10 + i, 1 + i, i, 2);
        for (int i = 6 * last; i < 6 + last; i++) x.step(1 + i, 12 - i, 20 + i);
        for (int i = 7 * last; i < 7 + last; i++) x.job(5 + 3 * i);
        for (int i = 19 * last; i < 19 + last; i++) x.trial(i % 3 == 0, 3 * i, i % 9 - 1);
    }

    /** Bytes of which one is no GROUND, shorts of which one is no ACT, ints, and one that is missing. */
    private static void sheets(DeadStick x) {
        Due.fill(x, 0, 0, 1, 2, 3, 4, 5, 100);
        Due.fill(x, 1, 1, 8, 9);
        Due.fill(x, 2, 2, 70, -7, 4);
        x.sheet(3, -1, 0);
    }

    /** What an object answers; at last THE TAPE is read and what was kept comes again, so it can be seen once. */
    static List<Integer> seen(DeadStick x) {
        List<Integer> all = new ArrayList<>();
        now(x, all);
        for (int scene = -1; scene < 5; scene++) {
            for (int what = 1; what < 4; what++) all.add(x.flown(3, scene, what));
        }
        for (int i = 0; i < 5; i++) {
            all.add(x.trace(i));
            for (int what = 0; what < 2; what++) all.add(x.row(i, what));
            for (int sheet = 0; sheet < 4; sheet++) all.add(x.item(sheet, sheet % 3, i));
        }
        all.add(x.item(0, 0, 5));
        int[] as = {0, 6, 12, 0};
        for (int shelf = 0; shelf < 4; shelf++) all.add(x.taken(shelf, as[shelf]));
        all.add(x.judge());
        all.add(x.many(9));
        all.add(x.read());
        all.add(x.again());
        now(x, all);
        return all;
    }

    private static void now(DeadStick x, List<Integer> all) {
        for (int what = 0; what < 9; what++) all.add(x.many(what));
        for (int cell = 0; cell < 12; cell++) all.add(x.cellOf(cell % 6, cell / 6));
        for (int what = 0; what < 7; what++) all.add(x.craftOf(what));
        for (int end = 0; end < 8; end++) {
            all.add(x.spare(end));
            all.add(x.endOf(end, end % 2 == 0 ? 1 : 4));
        }
        for (int plan = 0; plan < 4; plan++) {
            all.add(x.planOf(plan, -1));
            all.add(x.planOf(plan, 0));
            all.add(x.mean(plan, 0));
        }
        all.add(x.odds(0, 0, 1));
        for (int line = 0; line < 3; line++) {
            for (int what = 0; what < 2; what++) all.add(x.line(line, what));
        }
        all.add(x.hand());
        all.add(x.ruled(2));
        for (int what = 0; what < 2; what++) {
            all.add(x.worth(what));
            all.add(x.shared(what));
            for (int end = 0; end < 8; end += 3) all.add(x.fair(end, 9, what == 0, 0));
        }
        all.add(x.order(0));
        all.add(x.order(6));
        for (int what = 0; what < 9; what++) all.add(x.table(what, 1));
    }
}
