import java.util.List;
import java.util.function.Supplier;
import java.util.function.ToIntFunction;

/** A refused call changes nothing: for each call and each of its refusals, seen by all that an object answers. */
public final class RefusedEdgesTest {
    private static final int BAD = -1, FULL = -2, NONE = -3, STATE = -4, NO_SUCH = -9;
    private static final int NOTHING = -11, OUTSIDE = -12, KIND = -13, SIZE = -14, PARTED = -15;

    private static final List<Integer> FILLED = Filled.seen(Filled.make());

    public static void main(String[] args) {
        Edges.run(RefusedEdgesTest.class);
    }

    /** A call on a full object. */
    private static void refused(String call, int due, ToIntFunction<DeadStick> of) {
        refused(call, due, of, Filled::make, FILLED);
    }

    /** A call on another object than a full one. */
    private static void refused(String call, int due, ToIntFunction<DeadStick> of, Supplier<DeadStick> made) {
        refused(call, due, of, made, Filled.seen(made.get()));
    }

    private static void refused(String call, int due, ToIntFunction<DeadStick> of, Supplier<DeadStick> made, List<Integer> before) {
        DeadStick x = made.get();
        Due.is(call, of.applyAsInt(x), due);
        List<Integer> behind = Filled.seen(x);
        for (int i = 0; i < before.size(); i++) Due.is("seen " + i + " behind " + call, behind.get(i), before.get(i));
    }

    private static DeadStick down() {
        DeadStick x = Filled.make();
        x.craft(3, 0);
        return x;
    }

    /** A PLAN and an END, nothing else. */
    private static DeadStick bare() {
        DeadStick x = new DeadStick();
        x.end(1, 5, 0, 2, 9);
        Due.plan(x, 4);
        return x;
    }

    private static DeadStick withGoodPlan() {
        DeadStick x = Filled.make();
        x.put(1, 1, 4);
        return x;
    }

    @Edge(at = "Terms", says = "such a call changes nothing")
    private static void termsRefusedLandAndCraft() {
        refused("land", BAD, x -> x.land(0, 1));
        refused("land", BAD, x -> x.land(8, 9));
        refused("land with ENDS", STATE, x -> x.land(8, 8));
        refused("land with the craft beyond", STATE, x -> x.land(2, 2), () -> {
            DeadStick x = new DeadStick();
            x.craft(0, 4);
            return x;
        });
        refused("lay", BAD, x -> x.lay(4, 0));
        refused("lay", BAD, x -> x.lay(0, 2));
        refused("lay of shorts", KIND, x -> x.lay(1, 0));
        refused("lay of a missing one", NOTHING, x -> x.lay(3, 1));
        refused("lay of 100 at the end", STATE, x -> x.lay(0, 0));
        refused("lay of 100 at the end", STATE, x -> x.lay(0, 1));
        refused("cellOf", BAD, x -> x.cellOf(6, 0));
        for (int what = 0; what < 4; what++) {
            int w = what;
            refused("craft " + what, BAD, x -> x.craft(w, 100));
            refused("craft " + what, BAD, x -> x.craft(w, -1));
        }
        refused("craft", BAD, x -> x.craft(4, 0));
        refused("craftOf", BAD, x -> x.craftOf(7));
        for (int what = 0; what < 9; what++) {
            int w = what;
            refused("table " + what, BAD, x -> x.table(w, 10));
            refused("table " + what, BAD, x -> x.table(w, -1));
        }
        refused("table", BAD, x -> x.table(9, 1));
    }

    @Edge(at = "Terms", says = "such a call changes nothing")
    private static void termsRefusedFlight() {
        refused("fly", BAD, x -> x.fly(9));
        refused("fly slower than slow", STATE, x -> x.fly(3));
        refused("fly off the land", STATE, x -> x.fly(5), () -> {
            DeadStick x = Filled.make();
            x.craft(0, 1);
            return x;
        });
        refused("fly when DOWN", STATE, x -> x.fly(4), RefusedEdgesTest::down);
        refused("fly at TICK 200", STATE, x -> x.fly(7), () -> {
            DeadStick x = new DeadStick();
            x.table(1, 1);
            x.table(3, 0);
            x.craft(1, 0);
            for (int i = 0; i < 200; i++) {
                if (i % 50 == 0) x.craft(3, 60);
                x.fly(7);
            }
            return x;
        });
    }

    @Edge(at = "Terms", says = "such a call changes nothing")
    private static void termsRefusedEnds() {
        refused("end", FULL, x -> x.end(1, 0, 0, 2, 0));
        int[][] bad = {{0, 0, 0, 2, 0}, {1, 6, 0, 2, 0}, {1, 0, -1, 2, 0}, {1, 0, 2, 1, 0}, {1, 0, 0, 3, 0}, {1, 0, 0, 2, 1000}};
        for (int[] b : bad) {
            refused("end", BAD, x -> x.end(b[0], b[1] * 11, b[2], b[3], b[4]), DeadStick::new);
            refused("end of a full one", BAD, x -> x.end(b[0], b[1], b[2], b[3], b[4]));
        }
        refused("endOf", BAD, x -> x.endOf(8, 0));
        refused("spare", BAD, x -> x.spare(8));
        refused("late", BAD, x -> x.late(8));
        refused("spare of one that CAN'T BE", NONE, x -> x.spare(0), RefusedEdgesTest::down);
        refused("late of one that CAN'T BE", NONE, x -> x.late(0), RefusedEdgesTest::down);
        refused("bestEnd without ENDS", NONE, DeadStick::bestEnd, DeadStick::new);
    }

    @Edge(at = "Terms", says = "such a call changes nothing")
    private static void termsRefusedPlansAndScenes() {
        refused("plan", BAD, x -> x.plan(4));
        refused("plan of bytes", KIND, x -> x.plan(0));
        refused("plan of a missing one", NOTHING, x -> x.plan(3));
        refused("plan with 9 at the end", STATE, x -> x.plan(1));
        refused("plan with 9 at the end", STATE, x -> x.plan(1), () -> {
            DeadStick x = bare();
            Due.fill(x, 1, 1, 8, 9);
            return x;
        });
        refused("the fifth plan", FULL, x -> x.plan(1), RefusedEdgesTest::withGoodPlan);
        refused("planOf", BAD, x -> x.planOf(4, 0));
        refused("planOf", NONE, x -> x.planOf(0, 2));
        refused("scene", FULL, x -> x.scene(1, 1, 1, 1));
        int[][] bad = {{0, 0, 0, 0}, {100, 0, 0, 0}, {1, 10, 0, 0}, {1, 0, 21, 0}, {1, 0, 0, 21}, {1, 0, 0, -1}};
        for (int[] b : bad) {
            refused("scene", BAD, x -> x.scene(b[0], b[1], b[2], b[3]));
            refused("scene of a bare one", BAD, x -> x.scene(b[0], b[1], b[2], b[3]), RefusedEdgesTest::bare);
        }
        refused("flown", BAD, x -> x.flown(4, -1, 0));
        refused("flown", BAD, x -> x.flown(0, 5, 0));
        refused("flown", BAD, x -> x.flown(0, 0, 5));
        refused("odds", BAD, x -> x.odds(0, 8, 0));
        refused("odds without SCENES", NONE, x -> x.odds(0, 0, 0), RefusedEdgesTest::bare);
        refused("mean", BAD, x -> x.mean(4, 0));
        refused("mean without SCENES", NONE, x -> x.mean(0, 0), RefusedEdgesTest::bare);
        refused("bestPlan without SCENES", NONE, DeadStick::bestPlan, RefusedEdgesTest::bare);
    }

    @Edge(at = "Terms", says = "such a call changes nothing")
    private static void termsRefusedTapeAndHands() {
        refused("feed", BAD, x -> x.feed(0, 0));
        refused("feed", BAD, x -> x.feed(0, 9));
        refused("feed", FULL, x -> x.feed(0, 1));
        refused("feed", FULL, x -> x.feed(0, 8));
        refused("line", NO_SUCH, x -> x.line(3, 0));
        refused("line", NO_SUCH, x -> x.line(0, 2));
        refused("hand when DOWN", NONE, DeadStick::hand, RefusedEdgesTest::down);
        refused("ruled", BAD, x -> x.ruled(5));
    }

    @Edge(at = "Terms", says = "(but that THE TAPE is used up)")
    private static void termsRefusedReadUsesTheTapeUp() {
        String[] faults = {"=", "left if 1=1;slower", "left if 1=1;".repeat(10), "faster if (((((1=1)))));", "left if 1=1 or 1000=1;"};
        for (String fault : faults) {
            refused("read of " + fault, -1, x -> Due.read(x, fault) <= -100 ? -1 : 0, Filled::withoutTape);
        }
        DeadStick x = Filled.make();
        Due.is("bytes", x.many(9), 240);
        Due.is("read", x.read(), -300);
        Due.is("used up", x.many(9), 0);
        Due.is("an empty TEXT then", x.read(), 0);
    }

    @Edge(at = "Terms", says = "such a call changes nothing")
    private static void termsRefusedRows() {
        refused("prove", BAD, x -> x.prove(4));
        refused("prove", BAD, x -> x.prove(-1));
        refused("row", NO_SUCH, x -> x.row(30, 0));
        refused("alterRow", NO_SUCH, x -> x.alterRow(-1, 0, 5));
        refused("alterRow", NO_SUCH, x -> x.alterRow(30, 0, 5));
        refused("alterRow", NO_SUCH, x -> x.alterRow(0, 2, 5));
        refused("alterRow", NO_SUCH, x -> x.alterRow(0, -1, 5));
        refused("alterRow behind the last", NO_SUCH, x -> x.alterRow(x.many(8), 1, 5));
    }

    @Edge(at = "Terms", says = "such a call changes nothing")
    private static void termsRefusedWork() {
        refused("step", FULL, x -> x.step(1, 1, 1));
        refused("job", FULL, x -> x.job(1));
        refused("trial", FULL, x -> x.trial(true, 0, 0));
        int[][] steps = {{0, 1, 1}, {21, 1, 1}, {1, 0, 1}, {1, 100, 1}, {1, 1, 0}, {1, 1, 100}};
        for (int[] b : steps) {
            refused("step", BAD, x -> x.step(b[0], b[1], b[2]));
            refused("step of a new one", BAD, x -> x.step(b[0], b[1], b[2]), DeadStick::new);
        }
        for (int ticks : new int[] {0, 51}) {
            refused("job", BAD, x -> x.job(ticks));
            refused("job of a new one", BAD, x -> x.job(ticks), DeadStick::new);
        }
        int[][] trials = {{-1, 0}, {61, 0}, {0, -2}, {0, 8}};
        for (int[] b : trials) {
            refused("trial", BAD, x -> x.trial(true, b[0], b[1]));
            refused("trial of a new one", BAD, x -> x.trial(true, b[0], b[1]), DeadStick::new);
        }
        refused("worth", BAD, x -> x.worth(2));
        refused("order", BAD, x -> x.order(7));
        refused("shared", BAD, x -> x.shared(2));
        refused("fair", BAD, x -> x.fair(8, 0, true, 0));
        refused("fair", NONE, x -> x.fair(0, 60, true, 0));
    }

    @Edge(at = "Terms", says = "such a call changes nothing")
    private static void termsRefusedSheets() {
        for (int sheet = 0; sheet < 4; sheet++) {
            int s = sheet;
            refused("sheet " + sheet, BAD, x -> x.sheet(s, 5, 1));
            refused("sheet " + sheet, BAD, x -> x.sheet(s, -2, 1));
            refused("sheet " + sheet, BAD, x -> x.sheet(s, 2, 65));
            refused("sheet " + sheet, SIZE, x -> x.sheet(s, 2, -1));
        }
        refused("sheet", BAD, x -> x.sheet(4, 0, 1));
        refused("put", BAD, x -> x.put(4, 0, 1));
        refused("put", NOTHING, x -> x.put(3, 0, 1));
        refused("put", OUTSIDE, x -> x.put(0, 6, 1));
        refused("put", OUTSIDE, x -> x.put(2, -1, 1));
        refused("item", BAD, x -> x.item(0, 5, 0));
        refused("item", KIND, x -> x.item(0, 1, 0));
        refused("item", NOTHING, x -> x.item(3, 0, 0));
        refused("item", OUTSIDE, x -> x.item(0, 0, 6));
        refused("flies", BAD, x -> x.flies(4, 0, 1));
        refused("flies", BAD, x -> x.flies(2, 0, 31));
        refused("flies", BAD, x -> x.flies(2, 0, -1));
        refused("flies", KIND, x -> x.flies(1, 0, 1));
        refused("flies", NOTHING, x -> x.flies(3, 0, 1));
        refused("flies behind the last", OUTSIDE, x -> x.flies(2, 3, 1));
        refused("flies ahead of the first", OUTSIDE, x -> x.flies(2, -1, 3));
    }

    @Edge(at = "Terms", says = "such a call changes nothing")
    private static void termsRefusedShelvesAndTheRest() {
        for (int shelf = 0; shelf < 4; shelf++) {
            int s = shelf;
            refused("shelf", BAD, x -> x.shelf(s, 0, 8));
            refused("shelf", BAD, x -> x.shelf(s, 1, 5));
            refused("shelf", BAD, x -> x.shelf(s, 2, 4));
            refused("shelf", BAD, x -> x.shelf(s, 4, 0));
        }
        refused("shelf", BAD, x -> x.shelf(4, 3, 0));
        refused("taken", BAD, x -> x.taken(0, 7));
        refused("taken", KIND, x -> x.taken(0, 6));
        refused("taken", NOTHING, x -> x.taken(3, 6));
        refused("trace", NONE, x -> x.trace(30));
        refused("many", BAD, x -> x.many(11));
        refused("again, nothing is kept", NONE, DeadStick::again, RefusedEdgesTest::bare);
    }

    /** THE TRACE alone is of the latest ask(), so another ask() behind it makes both alike. */
    @Edge(at = "Terms", says = "-15 parted by 0")
    private static void termsPartedChangesNothingButTheTrace() {
        Supplier<DeadStick> made = () -> {
            DeadStick x = new DeadStick();
            x.end(1, 5, 0, 2, 0);
            x.shelf(0, 0, 0);
            return x;
        };
        DeadStick control = made.get();
        control.ask(0, 0, 1);
        refused("bears, then reaches", PARTED, x -> {
            int answer = x.ask(0, 2, 1);
            Due.is("reaches", x.ask(0, 0, 1), 1);
            return answer;
        }, made, Filled.seen(control));
    }
}
