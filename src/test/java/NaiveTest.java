import java.util.ArrayList;
import java.util.Arrays;
import java.util.List;

/**
 * Runs of calls that a counter picks, each answered by DeadStick and by a second writing of the document that goes the
 * longest way: all heights one by one, all orders of STEPS, HANDS as trees, ASKS by Java's own classes and exceptions.
 */
public final class NaiveTest {
    private static final int RUNS = 400;
    private static final int CALLS = 480;
    private static final String[] NAMES = {
        "land", "lay", "cellOf", "craft", "craftOf", "table", "fly", "acts",
        "end", "endOf", "spare", "late", "can", "bestEnd",
        "plan", "planOf", "scene", "flown", "odds", "mean", "bestPlan",
        "feed", "read", "line", "hand", "ruled", "prove", "row", "alterRow", "judge",
        "step", "worth", "order", "job", "shared", "trial", "fair",
        "sheet", "put", "item", "flies", "shelf", "taken", "ask", "trace", "many", "keep", "again",
    };

    private static long seed;

    private static int below(int n) {
        seed = seed * 6364136223846793005L + 1442695040888963407L;
        return (int) ((seed >>> 33) % n);
    }

    /** Mostly within least and most, now and then just beyond or far off. */
    private static int about(int least, int most) {
        int k = below(24);
        if (k == 0) return least - 1;
        if (k == 1) return most + 1;
        if (k == 2 && below(4) == 0) return below(2) == 0 ? Integer.MIN_VALUE : Integer.MAX_VALUE;
        return least + below(most - least + 1);
    }

    public static void main(String[] args) {
        long calls = 0;
        int[] good = new int[NAMES.length];
        for (int run = 0; run < RUNS; run++) {
            seed = 7919L * run + 13;
            String wrong = oneRun(good);
            if (wrong != null) {
                System.out.println("run " + run + ":\n" + wrong);
                System.exit(1);
            }
            calls += CALLS;
        }
        for (int i = 0; i < NAMES.length; i++) {
            if (good[i] < 60) {
                System.out.println(NAMES[i] + " was answered only " + good[i] + " times");
                System.exit(1);
            }
        }
        System.out.println(calls + " calls are answered alike");
    }

    private static String oneRun(int[] good) {
        DeadStick x = new DeadStick();
        Naive y = new Naive();
        StringBuilder log = new StringBuilder();
        int style = below(4);
        int made = 0;
        if (style > 0) made = prepared(x, y, style, log);
        while (made < CALLS) {
            int which = picked(style);
            if (NAMES[which].equals("read") && below(3) > 0) {
                made += text(x, y, log);
                int got = x.read();
                int want = y.read();
                log.append("read() ").append(got).append(" / ").append(want).append('\n');
                if (got != want) return log.toString();
                made++;
                continue;
            }
            if (NAMES[which].equals("sheet") && below(3) > 0) {
                made += rowOfActs(x, y, log);
                continue;
            }
            int[] a = arguments(y, which);
            long eight = ((long) below(1 << 30) << 34) ^ ((long) below(1 << 30) << 10) ^ below(1 << 10);
            int got = called(x, which, a, eight);
            int want = y.called(which, a, eight);
            made++;
            log.append(NAMES[which]).append(Arrays.toString(a)).append(' ');
            log.append(got).append(" / ").append(want).append('\n');
            if (got != want) return log.toString();
            if (want >= 0) good[which]++;
        }
        return null;
    }

    /** A third of the calls are of one part of the face: hands and rows, things on shelves, or ends and plans. */
    private static int picked(int style) {
        if (below(3) > 0) return below(NAMES.length);
        switch (style) {
            case 1: return 21 + below(9);
            case 2: return below(4) == 0 ? 8 : 41 + below(4);
            case 3: return 10 + below(11);
            default: return below(NAMES.length);
        }
    }

    /** A land with hills and houses, so that not all is flat. */
    private static int prepared(DeadStick x, Naive y, int style, StringBuilder log) {
        int w = 1 + below(8);
        int h = 1 + below(8);
        int made = 1;
        x.land(w, h);
        y.called(0, new int[] {w, h}, 0);
        log.append("land ").append(w).append(' ').append(h).append('\n');
        for (int what = 0; what < 2; what++) {
            x.sheet(0, 0, w * h);
            y.called(37, new int[] {0, 0, w * h}, 0);
            made++;
            int steep = 1 + below(50);
            log.append("lay ").append(what);
            for (int i = 0; i < w * h; i++) {
                int v = below(3) == 0 ? below(steep) : 0;
                x.put(0, i, v);
                y.called(38, new int[] {0, i, v}, 0);
                log.append(' ').append(v);
                made++;
            }
            log.append('\n');
            x.lay(0, what);
            y.called(1, new int[] {0, what}, 0);
            made++;
        }
        if (style != 3) return made;
        // ENDS all over and little HEIGHT, so that flights come to them
        for (int i = 0; i < 8; i++) {
            int[] end = {1 + below(5), below(w * h), below(2), 1 + below(2), below(1000)};
            called(x, 8, end, 0);
            y.called(8, end, 0);
            log.append("end ").append(Arrays.toString(end)).append('\n');
        }
        int height = below(30);
        x.craft(3, height);
        y.called(3, new int[] {3, height}, 0);
        log.append("craft 3 ").append(height).append('\n');
        for (int i = 0; i < 3; i++) {
            int[] scene = {1 + below(99), below(10), below(9), below(9)};
            called(x, 16, scene, 0);
            y.called(16, scene, 0);
            log.append("scene ").append(Arrays.toString(scene)).append('\n');
            made += plannedActs(x, y, log) + 1;
        }
        x.keep();
        y.called(46, new int[0], 0);
        log.append("keep\n");
        return made + 10;
    }

    private static int plannedActs(DeadStick x, Naive y, StringBuilder log) {
        int n = below(21);
        x.sheet(1, 1, n);
        y.called(37, new int[] {1, 1, n}, 0);
        log.append("plan");
        for (int i = 0; i < n; i++) {
            int act = below(2) == 0 ? 4 : below(9);
            x.put(1, i, act);
            y.called(38, new int[] {1, i, act}, 0);
            log.append(' ').append(act);
        }
        log.append('\n');
        x.plan(1);
        y.called(14, new int[] {1}, 0);
        return n + 2;
    }

    /** A sheet of a sort that holds mostly acts. */
    private static int rowOfActs(DeadStick x, Naive y, StringBuilder log) {
        int sheet = below(4);
        int sort = below(3);
        int n = below(23);
        x.sheet(sheet, sort, n);
        y.called(37, new int[] {sheet, sort, n}, 0);
        log.append("row ").append(sheet).append(' ').append(sort).append(':');
        boolean clean = below(2) == 0;
        for (int i = 0; i < n; i++) {
            int v = clean ? below(9) : about(0, 8);
            x.put(sheet, i, v);
            y.called(38, new int[] {sheet, i, v}, 0);
            log.append(' ').append(v);
        }
        log.append('\n');
        return n + 1;
    }

    private static int text(DeadStick x, Naive y, StringBuilder log) {
        StringBuilder text = new StringBuilder();
        int lines = below(8) == 0 ? 8 + below(4) : below(4);
        for (int i = 0; i < lines; i++) {
            text.append(new String[] {"left", "right", "slower", "faster"}[below(4)]);
            text.append(" if ");
            cond(text, below(6));
            text.append(below(3) == 0 ? " ; " : ";");
        }
        if (below(3) == 0 && text.length() > 0) harm(text);
        if (text.length() > 240) text.setLength(240);
        int made = 0;
        for (int i = 0; i < text.length(); i += 8) {
            int n = Math.min(8, text.length() - i);
            long eight = below(2) == 0 ? -1L : 0L;
            for (int k = n - 1; k >= 0; k--) eight = eight << 8 | text.charAt(i + k) & 255;
            int got = x.feed(eight, n);
            int want = y.called(21, new int[] {n}, eight);
            if (got != want) log.append("feed differs ").append(got).append(" / ").append(want).append('\n');
            made++;
        }
        log.append("text: ").append(text).append('\n');
        return made;
    }

    private static void cond(StringBuilder text, int deep) {
        for (int i = 0; i < 3; i++) {
            int nots = below(5);
            for (int k = 3; k < nots; k++) text.append("not ");
            if (deep > 0 && below(2) == 0) {
                text.append(below(2) == 0 ? "(" : "( ");
                cond(text, deep - 1);
                text.append(below(2) == 0 ? ")" : " )");
            } else {
                value(text);
                text.append("<=>".charAt(below(3)));
                value(text);
            }
            if (below(3) > 0) return;
            if (i < 2) text.append(below(2) == 0 ? " or " : " and ");
        }
    }

    private static void value(StringBuilder text) {
        String[] names = {"height", "speed", "heading", "tick", "ground", "houses", "clear"};
        if (below(2) == 0) text.append(names[below(names.length)]);
        else text.append(below(3) == 0 ? below(1100) : below(60));
        if (below(4) == 0) text.append(' ');
    }

    private static void harm(StringBuilder text) {
        int at = below(text.length());
        switch (below(4)) {
            case 0: text.deleteCharAt(at); break;
            case 1: text.insert(at, (char) below(256)); break;
            case 2: text.insert(at, " not(<=>;or)4a".charAt(below(14))); break;
            default: text.setLength(at); break;
        }
    }

    private static int number(int count) {
        return about(0, Math.max(0, count - 1));
    }

    private static int[] arguments(Naive x, int which) {
        int ends = x.many(1);
        switch (NAMES[which]) {
            case "land": return new int[] {about(1, 8), about(1, 8)};
            case "lay": return new int[] {about(0, 3), about(0, 1)};
            case "cellOf": return new int[] {number(x.many(0)), about(0, 1)};
            case "craft": {
                int what = about(0, 3);
                int[] most = {x.many(0) - 1, 3, 2, below(2) == 0 ? 99 : 20};
                return new int[] {what, about(0, what >= 0 && what < 4 ? most[what] : 9)};
            }
            case "craftOf": return new int[] {about(0, 6)};
            case "table": {
                int what = about(0, 8);
                return new int[] {what, what < 3 ? about(1, below(2) == 0 ? 9 : 2) : about(0, what < 5 ? 9 : 5)};
            }
            case "fly": return new int[] {about(0, 8)};
            case "end": {
                int least = about(0, 2);
                int most = below(3) == 0 ? about(0, 2) : 2;
                return new int[] {about(1, 5), number(x.many(0)), least, most, about(0, below(2) == 0 ? 999 : 9)};
            }
            case "endOf": return new int[] {number(ends), about(0, 4)};
            case "spare": case "late": return new int[] {number(ends)};
            case "plan": return new int[] {about(0, 3)};
            case "planOf": return new int[] {number(x.many(2)), about(-1, 20)};
            case "scene": return new int[] {about(1, 99), about(0, 9), about(0, 20), about(0, 20)};
            case "flown": return new int[] {number(x.many(2)), about(-1, Math.max(0, x.many(3) - 1)), about(0, 4)};
            case "odds": return new int[] {number(x.many(2)), number(ends), about(0, 1)};
            case "mean": return new int[] {number(x.many(2)), about(0, 1)};
            case "feed": return new int[] {about(1, 8)};
            case "line": return new int[] {number(x.many(4)), about(0, 1)};
            case "ruled": return new int[] {about(0, 4)};
            case "prove": return new int[] {number(x.many(2))};
            case "row": return new int[] {number(x.many(8)), about(0, 1)};
            case "alterRow": {
                int i = number(x.many(8));
                int what = about(0, 1);
                int v = below(3) > 0 ? x.called(27, new int[] {i, what}, 0) : about(0, 8);
                return new int[] {i, what, v};
            }
            case "step": return new int[] {about(1, 20), about(1, below(2) == 0 ? 99 : 30), about(1, 99)};
            case "worth": return new int[] {about(0, 1)};
            case "order": return new int[] {number(x.many(5))};
            case "job": return new int[] {about(1, 50)};
            case "shared": return new int[] {about(0, 1)};
            case "trial": return new int[] {below(2), about(0, 60), about(-1, 7)};
            case "fair": return new int[] {about(0, 7), about(0, 60), below(2), about(0, 1)};
            case "sheet": return new int[] {about(0, 3), about(-1, 4), below(3) == 0 ? x.many(0) : about(0, 64)};
            case "put": return new int[] {about(0, 3), about(0, 20), below(2) == 0 ? about(0, 8) : below(1 << 30) * 3};
            case "item": return new int[] {about(0, 3), about(0, 4), about(0, 20)};
            case "flies": return new int[] {about(0, 3), about(0, 12), below(2) == 0 ? about(0, 6) : about(0, 30)};
            case "shelf": {
                int what = about(0, 3);
                return new int[] {about(0, 3), what, what == 0 ? number(ends) : what == 1 ? number(x.many(3)) : about(0, 3)};
            }
            case "taken": return new int[] {about(0, 3), below(3) == 0 ? about(10, 14) : about(0, 6)};
            case "ask": return new int[] {about(0, 3), about(0, 3), below(2) == 0 ? about(-20, 20) : below(1 << 30) * 5};
            case "trace": return new int[] {about(0, 11)};
            case "many": return new int[] {about(0, 10)};
            default: return new int[0];
        }
    }

    private static int called(DeadStick x, int which, int[] a, long eight) {
        switch (NAMES[which]) {
            case "land": return x.land(a[0], a[1]);
            case "lay": return x.lay(a[0], a[1]);
            case "cellOf": return x.cellOf(a[0], a[1]);
            case "craft": return x.craft(a[0], a[1]);
            case "craftOf": return x.craftOf(a[0]);
            case "table": return x.table(a[0], a[1]);
            case "fly": return x.fly(a[0]);
            case "acts": return x.acts();
            case "end": return x.end(a[0], a[1], a[2], a[3], a[4]);
            case "endOf": return x.endOf(a[0], a[1]);
            case "spare": return x.spare(a[0]);
            case "late": return x.late(a[0]);
            case "can": return x.can();
            case "bestEnd": return x.bestEnd();
            case "plan": return x.plan(a[0]);
            case "planOf": return x.planOf(a[0], a[1]);
            case "scene": return x.scene(a[0], a[1], a[2], a[3]);
            case "flown": return x.flown(a[0], a[1], a[2]);
            case "odds": return x.odds(a[0], a[1], a[2]);
            case "mean": return x.mean(a[0], a[1]);
            case "bestPlan": return x.bestPlan();
            case "feed": return x.feed(eight, a[0]);
            case "read": return x.read();
            case "line": return x.line(a[0], a[1]);
            case "hand": return x.hand();
            case "ruled": return x.ruled(a[0]);
            case "prove": return x.prove(a[0]);
            case "row": return x.row(a[0], a[1]);
            case "alterRow": return x.alterRow(a[0], a[1], a[2]);
            case "judge": return x.judge();
            case "step": return x.step(a[0], a[1], a[2]);
            case "worth": return x.worth(a[0]);
            case "order": return x.order(a[0]);
            case "job": return x.job(a[0]);
            case "shared": return x.shared(a[0]);
            case "trial": return x.trial(a[0] == 1, a[1], a[2]);
            case "fair": return x.fair(a[0], a[1], a[2] == 1, a[3]);
            case "sheet": return x.sheet(a[0], a[1], a[2]);
            case "put": return x.put(a[0], a[1], a[2]);
            case "item": return x.item(a[0], a[1], a[2]);
            case "flies": return x.flies(a[0], a[1], a[2]);
            case "shelf": return x.shelf(a[0], a[1], a[2]);
            case "taken": return x.taken(a[0], a[1]);
            case "ask": return x.ask(a[0], a[1], a[2]);
            case "trace": return x.trace(a[0]);
            case "many": return x.many(a[0]);
            case "keep": return x.keep();
            default: return x.again();
        }
    }

    /** The second writing. */
    private static final class Naive {
        private static final class Kept {
            int w = 8, h = 8;
            int[] ground = new int[64], houses = new int[64];
            int cell = 0, heading = 1, speed = 1, height = 60, tick = 0;
            int[] sink = {3, 2, 4}, wind = {0, 0, 0, 0};
            int turn = 2, change = 1;
            List<int[]> ends = new ArrayList<>(), plans = new ArrayList<>(), scenes = new ArrayList<>();
            List<Line> lines = new ArrayList<>();
            List<int[]> steps = new ArrayList<>(), trials = new ArrayList<>();
            List<Integer> jobs = new ArrayList<>();

            Kept copy() {
                Kept k = new Kept();
                k.w = w;
                k.h = h;
                k.ground = ground.clone();
                k.houses = houses.clone();
                k.cell = cell;
                k.heading = heading;
                k.speed = speed;
                k.height = height;
                k.tick = tick;
                k.sink = sink.clone();
                k.wind = wind.clone();
                k.turn = turn;
                k.change = change;
                k.ends = new ArrayList<>(ends);
                k.plans = new ArrayList<>(plans);
                k.scenes = new ArrayList<>(scenes);
                k.lines = lines;
                k.steps = new ArrayList<>(steps);
                k.trials = new ArrayList<>(trials);
                k.jobs = new ArrayList<>(jobs);
                return k;
            }

            boolean down() {
                return height <= ground[cell];
            }

            /** One tick, or false with nothing changed. */
            boolean fly(int act) {
                if (act < 0 || act > 8 || down()) return false;
                int turned = act / 3, paced = act % 3;
                int s = speed + paced - 1;
                if (s < 0 || s > 2) return false;
                int d = (heading + turned + 3) % 4;
                int row = cell / w, column = cell % w;
                for (int k = 0; k < (s == 2 ? 2 : 1); k++) {
                    if (d == 0) row--;
                    if (d == 1) column++;
                    if (d == 2) row++;
                    if (d == 3) column--;
                    if (row < 0 || row >= h || column < 0 || column >= w) return false;
                }
                cell = row * w + column;
                heading = d;
                speed = s;
                height -= sink[s] + wind[d] + (turned != 1 ? turn : 0) + (paced != 1 ? change : 0);
                if (height < 0) height = 0;
                tick++;
                return true;
            }

            boolean may(int act) {
                return copy().fly(act);
            }

            int comesTo() {
                for (int i = 0; i < ends.size(); i++) {
                    int[] e = ends.get(i);
                    if (e[1] == cell && e[2] <= speed && speed <= e[3]) return i;
                }
                return -9;
            }

            int byHands() {
                int turned = 1, paced = 1;
                for (int i = lines.size() - 1; i >= 0; i--) {
                    Line l = lines.get(i);
                    if (l.does < 2 && l.cond.holds(this)) turned = l.does == 0 ? 0 : 2;
                    if (l.does >= 2 && l.cond.holds(this)) paced = l.does == 2 ? 0 : 2;
                }
                int act = 3 * turned + paced;
                return may(act) ? act : may(4) ? 4 : -3;
            }
        }

        private interface Cond {
            boolean holds(Kept k);
        }

        private static final class Line {
            int does;
            Cond cond;
        }

        private static final class Fault extends RuntimeException {
            private static final long serialVersionUID = 1L;
            final int place;

            Fault(int place) {
                this.place = place;
            }
        }

        private static final class Reader {
            final String text;
            int place = 0;
            int from = 0;
            String token = "";

            Reader(String text) {
                this.text = text;
                next();
            }

            void next() {
                while (place < text.length() && text.charAt(place) == ' ') place++;
                from = place;
                if (place == text.length()) {
                    token = "";
                    return;
                }
                String rest = text.substring(place);
                String letters = rest.replaceAll("(?s)^([a-z]*).*$", "$1");
                String digits = rest.replaceAll("(?s)^([0-9]*).*$", "$1");
                token = !letters.isEmpty() ? letters : !digits.isEmpty() ? digits : rest.substring(0, 1);
                place += token.length();
            }

            void must(String what) {
                if (!token.equals(what)) throw new Fault(from);
                next();
            }

            List<Line> all() {
                List<Line> lines = new ArrayList<>();
                while (!token.isEmpty()) {
                    if (lines.size() == 9) throw new Fault(from);
                    Line l = new Line();
                    l.does = List.of("left", "right", "slower", "faster").indexOf(token);
                    if (l.does < 0) throw new Fault(from);
                    next();
                    must("if");
                    l.cond = cond(0);
                    must(";");
                    lines.add(l);
                }
                return lines;
            }

            Cond cond(int open) {
                Cond a = both(open);
                while (token.equals("or")) {
                    next();
                    Cond one = a, two = both(open);
                    a = k -> one.holds(k) | two.holds(k);
                }
                return a;
            }

            Cond both(int open) {
                Cond a = one(open);
                while (token.equals("and")) {
                    next();
                    Cond one = a, two = one(open);
                    a = k -> one.holds(k) & two.holds(k);
                }
                return a;
            }

            Cond one(int open) {
                if (token.equals("not")) {
                    next();
                    Cond a = one(open);
                    return k -> !a.holds(k);
                }
                if (token.equals("(")) {
                    if (open == 4) throw new Fault(from);
                    next();
                    Cond a = cond(open + 1);
                    must(")");
                    return a;
                }
                String left = value();
                String sign = token;
                if (!List.of("<", "=", ">").contains(sign)) throw new Fault(from);
                next();
                String right = value();
                return k -> {
                    int order = Integer.compare(of(left, k), of(right, k));
                    return order == (sign.equals("<") ? -1 : sign.equals("=") ? 0 : 1);
                };
            }

            String value() {
                String v = token;
                boolean named = List.of("height", "speed", "heading", "tick", "ground", "houses", "clear").contains(v);
                if (!named && !v.matches("[0-9]{1,3}")) throw new Fault(from);
                next();
                return v;
            }

            static int of(String v, Kept k) {
                switch (v) {
                    case "height": return k.height;
                    case "speed": return k.speed;
                    case "heading": return k.heading;
                    case "tick": return k.tick;
                    case "ground": return k.ground[k.cell];
                    case "houses": return k.houses[k.cell];
                    case "clear": return Math.max(0, k.height - k.ground[k.cell]);
                    default: return Integer.parseInt(v);
                }
            }
        }

        /** ASKS by Java's own classes. */
        private abstract static class Thing {
            final int n, a;
            final List<Integer> ran;

            Thing(int n, int a, List<Integer> ran) {
                this.n = n;
                this.a = a;
                this.ran = ran;
            }

            abstract int reaches(int x);
            abstract int costs(int x);
            abstract int bears(int x);
            abstract int tells(int x);
        }

        private static class End extends Thing {
            End(int n, int a, List<Integer> ran) {
                super(n, a, ran);
            }

            int reaches(int x) {
                ran.add(10);
                return x + a;
            }

            int costs(int x) {
                ran.add(11);
                return reaches(x) * 2;
            }

            int bears(int x) {
                ran.add(12);
                return x / (a - n);
            }

            int tells(int x) {
                ran.add(13);
                return costs(x) ^ n;
            }
        }

        private static class Field extends End {
            Field(int n, int a, List<Integer> ran) {
                super(n, a, ran);
            }

            @Override int costs(int x) {
                ran.add(20);
                return super.costs(x) - 3;
            }
        }

        private static class Road extends Field {
            Road(int n, int a, List<Integer> ran) {
                super(n, a, ran);
            }

            @Override int reaches(int x) {
                ran.add(30);
                return super.reaches(x) * 5;
            }

            @Override int tells(int x) {
                ran.add(31);
                return super.tells(x) + bears(n + 2);
            }
        }

        private static class Water extends End {
            Water(int n, int a, List<Integer> ran) {
                super(n, a, ran);
            }

            @Override int costs(int x) {
                ran.add(40);
                return 0 - super.costs(x);
            }
        }

        private static class Hill extends End {
            Hill(int n, int a, List<Integer> ran) {
                super(n, a, ran);
            }

            @Override int bears(int x) {
                ran.add(50);
                return super.bears(x + 1);
            }
        }

        private static class Helped extends Road {
            Helped(int n, int a, List<Integer> ran) {
                super(n, a, ran);
            }

            @Override int reaches(int x) {
                ran.add(60);
                return super.reaches(x) ^ a;
            }

            @Override int costs(int x) {
                ran.add(61);
                return super.costs(x) + super.reaches(n);
            }
        }

        private static final class Scene extends Thing {
            Scene(int n, int a, List<Integer> ran) {
                super(n, a, ran);
            }

            int reaches(int x) {
                ran.add(70);
                return a - x;
            }

            int costs(int x) {
                ran.add(71);
                return reaches(x) + n;
            }

            int bears(int x) {
                ran.add(72);
                return x & a;
            }

            int tells(int x) {
                ran.add(73);
                return costs(x) - bears(x);
            }
        }

        private Kept k = new Kept();
        private Kept kept = null;
        private String tape = "";
        private List<int[]> rows = new ArrayList<>();
        private final Object[] sheets = new Object[4];
        private final Object[] shelves = new Object[4];
        private List<Integer> ran = new ArrayList<>();

        // what the latest flight in thought came to
        private int flightEnd, flightCell, flightTicks, flightCost, flightDown;
        private List<int[]> flightRows;

        private static boolean in(int v, int least, int most) {
            return least <= v && v <= most;
        }

        private static int fraction(int above, int below, int part) {
            for (int d = below; d > 1; d--) {
                if (above % d == 0 && below % d == 0) return part == 0 ? above / d : below / d;
            }
            return part == 0 ? above : below;
        }

        int called(int which, int[] a, long eight) {
            switch (NAMES[which]) {
                case "land": return land(a[0], a[1]);
                case "lay": return lay(a[0], a[1]);
                case "cellOf": return !in(a[0], 0, k.w * k.h - 1) || !in(a[1], 0, 1) ? -1
                    : (a[1] == 0 ? k.ground : k.houses)[a[0]];
                case "craft": return craft(a[0], a[1]);
                case "craftOf": return craftOf(a[0]);
                case "table": return table(a[0], a[1]);
                case "fly": return !in(a[0], 0, 8) ? -1 : k.tick == 200 || !k.fly(a[0]) ? -4 : k.height;
                case "acts": {
                    int bits = 0;
                    for (int i = 0; i < 9; i++) bits += k.may(i) ? 1 << i : 0;
                    return bits;
                }
                case "end": {
                    boolean good = in(a[0], 1, 5) && in(a[1], 0, k.w * k.h - 1) && in(a[2], 0, 2) && in(a[3], 0, 2)
                        && a[2] <= a[3] && in(a[4], 0, 999);
                    return added(good, k.ends, a, 8);
                }
                case "endOf": return !in(a[0], 0, k.ends.size() - 1) || !in(a[1], 0, 4) ? -1 : k.ends.get(a[0])[a[1]];
                case "spare": return !in(a[0], 0, k.ends.size() - 1) ? -1 : spare(k, a[0]);
                case "late": return !in(a[0], 0, k.ends.size() - 1) ? -1 : late(a[0]);
                case "can": {
                    int bits = 0;
                    for (int i = 0; i < k.ends.size(); i++) bits += spare(k, i) >= 0 ? 1 << i : 0;
                    return bits;
                }
                case "bestEnd": {
                    int best = -3;
                    for (int i = k.ends.size() - 1; i >= 0; i--) {
                        if (spare(k, i) >= 0 && (best < 0 || costs(i) <= costs(best))) best = i;
                    }
                    return best;
                }
                case "plan": return plan(a[0]);
                case "planOf": {
                    if (!in(a[0], 0, k.plans.size() - 1) || a[1] < -1) return -1;
                    int[] p = k.plans.get(a[0]);
                    return a[1] == -1 ? p.length : a[1] < p.length ? p[a[1]] : -3;
                }
                case "scene": return added(in(a[0], 1, 99) && in(a[1], 0, 9) && in(a[2], 0, 20) && in(a[3], 0, 20),
                    k.scenes, a, 5);
                case "flown": {
                    if (!in(a[0], 0, k.plans.size() - 1) || !in(a[1], -1, k.scenes.size() - 1) || !in(a[2], 0, 4)) return -1;
                    flies(k.plans.get(a[0]), a[1] < 0 ? null : k.scenes.get(a[1]));
                    return flight(a[2]);
                }
                case "odds": {
                    if (!in(a[0], 0, k.plans.size() - 1) || !in(a[1], 0, k.ends.size() - 1) || !in(a[2], 0, 1)) return -1;
                    if (k.scenes.isEmpty()) return -3;
                    int above = 0, below = 0;
                    for (int[] s : k.scenes) {
                        flies(k.plans.get(a[0]), s);
                        below += s[0];
                        if (flightEnd == a[1]) above += s[0];
                    }
                    return fraction(above, below, a[2]);
                }
                case "mean": return mean(a[0], a[1]);
                case "bestPlan": {
                    if (k.plans.isEmpty() || k.scenes.isEmpty()) return -3;
                    int best = 0;
                    for (int i = 1; i < k.plans.size(); i++) {
                        long one = (long) mean(i, 0) * mean(best, 1), two = (long) mean(best, 0) * mean(i, 1);
                        if (one < two) best = i;
                    }
                    return best;
                }
                case "feed": {
                    if (!in(a[0], 1, 8)) return -1;
                    if (tape.length() + a[0] > 240) return -2;
                    for (int i = 0; i < a[0]; i++) tape += (char) (eight >> 8 * i & 255);
                    return tape.length();
                }
                case "read": return read();
                case "line": return !in(a[0], 0, k.lines.size() - 1) || !in(a[1], 0, 1) ? -9
                    : a[1] == 0 ? k.lines.get(a[0]).does : k.lines.get(a[0]).cond.holds(k) ? 1 : 0;
                case "hand": return k.byHands();
                case "ruled": {
                    if (!in(a[0], 0, 4)) return -1;
                    flies(null, null);
                    return flight(a[0]);
                }
                case "prove": {
                    if (!in(a[0], 0, k.plans.size() - 1)) return -1;
                    flies(k.plans.get(a[0]), null);
                    rows = new ArrayList<>(flightRows.subList(0, Math.min(30, flightRows.size())));
                    return rows.size();
                }
                case "row": return !in(a[0], 0, rows.size() - 1) || !in(a[1], 0, 1) ? -9 : rows.get(a[0])[a[1]];
                case "alterRow": {
                    if (!in(a[0], 0, rows.size() - 1) || !in(a[1], 0, 1)) return -9;
                    int was = rows.get(a[0])[a[1]];
                    rows.get(a[0])[a[1]] = a[2];
                    return was;
                }
                case "judge": {
                    Kept t = k.copy();
                    for (int i = 0; i < rows.size(); i++) {
                        if (!t.fly(rows.get(i)[0]) || t.height != rows.get(i)[1]) return i + 1;
                    }
                    return rows.size() == 30 || !t.may(4) ? 0 : 99;
                }
                default: return rest(which, a);
            }
        }

        private int rest(int which, int[] a) {
            switch (NAMES[which]) {
                case "step": return added(in(a[0], 1, 20) && in(a[1], 1, 99) && in(a[2], 1, 99), k.steps, a, 7);
                case "worth": return !in(a[0], 0, 1) ? -1 : counts(a[0] == 0 ? byNumbers() : bestOrder());
                case "order": return !in(a[0], 0, k.steps.size() - 1) ? -1 : bestOrder().get(a[0]);
                case "job": {
                    if (!in(a[0], 1, 50)) return -1;
                    if (k.jobs.size() == 8) return -2;
                    k.jobs.add(a[0]);
                    return k.jobs.size() - 1;
                }
                case "shared": return !in(a[0], 0, 1) ? -1 : shared(a[0]);
                case "trial": return added(in(a[1], 0, 60) && in(a[2], -1, 7), k.trials, a, 20);
                case "fair": {
                    if (!in(a[0], 0, 7) || !in(a[1], 0, 60) || !in(a[3], 0, 1)) return -1;
                    int above = 0, below = 0;
                    for (int[] t : k.trials) {
                        if (t[0] == a[2] && t[1] >= a[1]) {
                            below++;
                            if (t[2] == a[0]) above++;
                        }
                    }
                    return below == 0 ? -3 : fraction(above, below, a[3]);
                }
                case "sheet": return sheet(a[0], a[1], a[2]);
                case "put": return put(a[0], a[1], a[2]);
                case "item": return item(a[0], a[1], a[2]);
                case "flies": return done(a[0], a[1], a[2]);
                case "shelf": return shelf(a[0], a[1], a[2]);
                case "taken": return taken(a[0], a[1]);
                case "ask": return ask(a[0], a[1], a[2]);
                case "trace": return in(a[0], 0, Math.min(30, ran.size()) - 1) ? ran.get(a[0]) : -3;
                case "many": return many(a[0]);
                case "keep":
                    kept = k.copy();
                    return 1;
                default:
                    if (kept == null) return -3;
                    k = kept.copy();
                    return 1;
            }
        }

        private static int added(boolean good, List<int[]> to, int[] a, int most) {
            if (!good) return -1;
            if (to.size() >= most) return -2;
            to.add(a.clone());
            return to.size() - 1;
        }

        private int land(int w, int h) {
            if (!in(w, 1, 8) || !in(h, 1, 8)) return -1;
            if (!k.ends.isEmpty() || k.cell >= w * h) return -4;
            k.w = w;
            k.h = h;
            k.ground = new int[64];
            k.houses = new int[64];
            return 1;
        }

        private int lay(int sheet, int what) {
            if (!in(sheet, 0, 3) || !in(what, 0, 1)) return -1;
            byte[] row;
            try {
                row = (byte[]) sheets[sheet];
            } catch (ClassCastException e) {
                return -13;
            }
            if (row == null) return -11;
            if (row.length != k.w * k.h) return -4;
            for (byte b : row) if (b < 0 || b > 99) return -4;
            for (int i = 0; i < row.length; i++) (what == 0 ? k.ground : k.houses)[i] = row[i];
            return 1;
        }

        private int craft(int what, int v) {
            if (!in(what, 0, 3) || v < 0) return -1;
            int was;
            if (what == 0) {
                if (v >= k.w * k.h) return -1;
                was = k.cell;
                k.cell = v;
            } else if (what == 1) {
                if (v > 3) return -1;
                was = k.heading;
                k.heading = v;
            } else if (what == 2) {
                if (v > 2) return -1;
                was = k.speed;
                k.speed = v;
            } else {
                if (v > 99) return -1;
                was = k.height;
                k.height = v;
            }
            return was;
        }

        private int craftOf(int what) {
            switch (what) {
                case 0: return k.cell;
                case 1: return k.heading;
                case 2: return k.speed;
                case 3: return k.height;
                case 4: return k.tick;
                case 5: return k.down() ? 1 : 0;
                case 6: return k.down() ? k.comesTo() : -9;
                default: return -1;
            }
        }

        private int table(int what, int v) {
            int was;
            if (in(what, 0, 2)) {
                if (!in(v, 1, 9)) return -1;
                was = k.sink[what];
                k.sink[what] = v;
            } else if (what == 3 && in(v, 0, 9)) {
                was = k.turn;
                k.turn = v;
            } else if (what == 4 && in(v, 0, 9)) {
                was = k.change;
                k.change = v;
            } else if (in(what, 5, 8) && in(v, 0, 5)) {
                was = k.wind[what - 5];
                k.wind[what - 5] = v;
            } else {
                return -1;
            }
            return was;
        }

        /** By all (cell, heading, speed, height) that can be, one by one. */
        private static int spare(Kept from, int end) {
            int[] e = from.ends.get(end);
            boolean[] seen = new boolean[64 * 12 * 100];
            ArrayList<int[]> waiting = new ArrayList<>();
            waiting.add(new int[] {from.cell, from.heading, from.speed, from.height});
            int best = -3;
            Kept t = from.copy();
            while (!waiting.isEmpty()) {
                int[] s = waiting.remove(waiting.size() - 1);
                if (s[0] == e[1] && s[2] >= e[2] && s[2] <= e[3]) best = Math.max(best, Math.max(0, s[3] - from.ground[s[0]]));
                for (int act = 0; act < 9; act++) {
                    t.cell = s[0];
                    t.heading = s[1];
                    t.speed = s[2];
                    t.height = s[3];
                    if (!t.fly(act)) continue;
                    int key = ((t.cell * 4 + t.heading) * 3 + t.speed) * 100 + t.height;
                    if (seen[key]) continue;
                    seen[key] = true;
                    waiting.add(new int[] {t.cell, t.heading, t.speed, t.height});
                }
            }
            return best;
        }

        private int late(int end) {
            int late = -3;
            Kept t = k.copy();
            for (int i = 0; i <= 30; i++) {
                if (spare(t, end) >= 0) late = i;
                if (!t.fly(4)) break;
            }
            return late;
        }

        private int costs(int end) {
            return k.ends.get(end)[4] + k.houses[k.ends.get(end)[1]];
        }

        private int plan(int sheet) {
            if (!in(sheet, 0, 3)) return -1;
            short[] row;
            try {
                row = (short[]) sheets[sheet];
            } catch (ClassCastException e) {
                return -13;
            }
            if (row == null) return -11;
            if (row.length > 20) return -4;
            int[] acts = new int[row.length];
            for (int i = 0; i < row.length; i++) {
                acts[i] = row[i];
                if (acts[i] < 0 || acts[i] > 8) return -4;
            }
            if (k.plans.size() == 4) return -2;
            k.plans.add(acts);
            return k.plans.size() - 1;
        }

        /** A flight in thought, of a PLAN or (null) by HANDS. */
        private void flies(int[] plan, int[] scene) {
            Kept t = k.copy();
            flightRows = new ArrayList<>();
            int ticks = 0;
            while (!t.down() && ticks < 60) {
                int act = plan == null ? t.byHands() : ticks < plan.length ? plan[ticks] : 4;
                if (!t.fly(act)) {
                    act = 4;
                    if (!t.fly(4)) break;
                }
                if (scene != null && ticks >= scene[2] && ticks - scene[2] < scene[3]) {
                    t.height = Math.min(99, t.height + scene[1]);
                }
                flightRows.add(new int[] {act, t.height});
                ticks++;
            }
            flightDown = t.down() ? 1 : 0;
            flightEnd = t.down() ? t.comesTo() : -9;
            flightCell = t.cell;
            flightTicks = ticks;
            int cost = flightEnd >= 0 ? k.ends.get(flightEnd)[4] : 999;
            flightCost = t.down() ? cost + k.houses[t.cell] : 999;
        }

        private int flight(int what) {
            return new int[] {flightEnd, flightCell, flightTicks, flightCost, flightDown}[what];
        }

        private int mean(int plan, int part) {
            if (!in(plan, 0, k.plans.size() - 1) || !in(part, 0, 1)) return -1;
            if (k.scenes.isEmpty()) return -3;
            int above = 0, below = 0;
            for (int[] s : k.scenes) {
                flies(k.plans.get(plan), s);
                above += s[0] * flightCost;
                below += s[0];
            }
            return fraction(above, below, part);
        }

        int read() {
            String text = tape;
            tape = "";
            try {
                k.lines = new Reader(text).all();
            } catch (Fault f) {
                return -100 - f.place;
            }
            return k.lines.size();
        }

        private List<Integer> byNumbers() {
            List<Integer> order = new ArrayList<>();
            for (int i = 0; i < k.steps.size(); i++) order.add(i);
            return order;
        }

        private int counts(List<Integer> order) {
            int time = 0, sum = 0;
            for (int i : order) {
                time += k.steps.get(i)[0];
                if (time <= k.steps.get(i)[1]) sum += k.steps.get(i)[2];
            }
            return sum;
        }

        /** Through all orders as rows of numbers; the first greatest one stays. */
        private List<Integer> bestOrder() {
            List<Integer> best = byNumbers();
            orders(new ArrayList<>(), best);
            return best;
        }

        private void orders(List<Integer> begun, List<Integer> best) {
            if (begun.size() == k.steps.size()) {
                if (counts(begun) > counts(best)) {
                    best.clear();
                    best.addAll(begun);
                }
                return;
            }
            for (int i = 0; i < k.steps.size(); i++) {
                if (begun.contains(i)) continue;
                begun.add(i);
                orders(begun, best);
                begun.remove(begun.size() - 1);
            }
        }

        private int shared(int what) {
            int best = -1, earliest = Integer.MAX_VALUE;
            for (int set = 0; set < 1 << k.jobs.size(); set++) {
                int one = 0, two = 0;
                for (int i = 0; i < k.jobs.size(); i++) {
                    if ((set & 1 << i) != 0) one += k.jobs.get(i);
                    else two += k.jobs.get(i);
                }
                if (Math.max(one, two) < earliest) {
                    earliest = Math.max(one, two);
                    best = set;
                }
            }
            return what == 0 ? earliest : best;
        }

        private int sheet(int sheet, int sort, int n) {
            if (!in(sheet, 0, 3) || !in(sort, -1, 4) || sort >= 0 && n > 64) return -1;
            try {
                switch (sort) {
                    case 0: sheets[sheet] = new byte[n]; break;
                    case 1: sheets[sheet] = new short[n]; break;
                    case 2: sheets[sheet] = new int[n]; break;
                    case 3: sheets[sheet] = new long[n]; break;
                    case 4: sheets[sheet] = new boolean[n]; break;
                    default: sheets[sheet] = null; break;
                }
            } catch (NegativeArraySizeException e) {
                return -14;
            }
            return 1;
        }

        private int put(int sheet, int i, int v) {
            if (!in(sheet, 0, 3)) return -1;
            Object row = sheets[sheet];
            if (row == null) return -11;
            try {
                if (row instanceof byte[]) ((byte[]) row)[i] = (byte) v;
                if (row instanceof short[]) ((short[]) row)[i] = (short) v;
                if (row instanceof int[]) ((int[]) row)[i] = v;
                if (row instanceof long[]) ((long[]) row)[i] = v;
                if (row instanceof boolean[]) ((boolean[]) row)[i] = v != 0;
            } catch (ArrayIndexOutOfBoundsException e) {
                return -12;
            }
            return 1;
        }

        private int item(int sheet, int sort, int i) {
            if (!in(sheet, 0, 3) || !in(sort, 0, 4)) return -1;
            Object row = sheets[sheet];
            try {
                switch (sort) {
                    case 0: return ((byte[]) row)[i];
                    case 1: return ((short[]) row)[i];
                    case 2: return ((int[]) row)[i];
                    case 3: return (int) ((long[]) row)[i];
                    default: return ((boolean[]) row)[i] ? 1 : 0;
                }
            } catch (ClassCastException e) {
                return -13;
            } catch (NullPointerException e) {
                return -11;
            } catch (ArrayIndexOutOfBoundsException e) {
                return -12;
            }
        }

        private int done(int sheet, int i, int n) {
            if (!in(sheet, 0, 3) || !in(n, 0, 30)) return -1;
            int done = 0;
            try {
                int[] row = (int[]) sheets[sheet];
                if (row == null) return -11;
                for (int j = i; j - i < n; j++) if (k.tick < 200 & row[j] >= 0 && k.tick < 200 && k.fly(row[j])) done++;
            } catch (ClassCastException e) {
                return -13;
            } catch (ArrayIndexOutOfBoundsException e) {
                return -12;
            }
            return done;
        }

        private int shelf(int shelf, int what, int n) {
            if (!in(shelf, 0, 3) || !in(what, 0, 3)) return -1;
            int[] many = {k.ends.size(), k.scenes.size(), 4, Integer.MAX_VALUE};
            if (what < 3 && !in(n, 0, many[what] - 1)) return -1;
            shelves[shelf] = what == 0 ? "end " + n : what == 1 ? "scene " + n : what == 2 ? sheets[n] : null;
            return 1;
        }

        private Object on(int shelf) {
            Object o = shelves[shelf];
            if (!(o instanceof String)) return o;
            String[] parts = ((String) o).split(" ");
            int n = Integer.parseInt(parts[1]);
            if (parts[0].equals("scene")) return n < k.scenes.size() ? new Scene(n, k.scenes.get(n)[0], ran) : null;
            if (n >= k.ends.size()) return null;
            int cost = k.ends.get(n)[4];
            switch (k.ends.get(n)[0]) {
                case 1: return new Field(n, cost, ran);
                case 2: return new Road(n, cost, ran);
                case 3: return new Water(n, cost, ran);
                case 4: return new Hill(n, cost, ran);
                default: return new Helped(n, cost, ran);
            }
        }

        private int taken(int shelf, int as) {
            if (!in(shelf, 0, 3) || !in(as, 0, 6) && !in(as, 10, 14)) return -1;
            Object o = on(shelf);
            try {
                switch (as) {
                    case 0: return ((End) o).n;
                    case 1: return ((Field) o).n;
                    case 2: return ((Road) o).n;
                    case 3: return ((Water) o).n;
                    case 4: return ((Hill) o).n;
                    case 5: return ((Helped) o).n;
                    case 6: return ((Scene) o).n;
                    case 10: return ((byte[]) o).length;
                    case 11: return ((short[]) o).length;
                    case 12: return ((int[]) o).length;
                    case 13: return ((long[]) o).length;
                    default: return ((boolean[]) o).length;
                }
            } catch (ClassCastException e) {
                return -13;
            } catch (NullPointerException e) {
                return -11;
            }
        }

        private int ask(int shelf, int ask, int x) {
            ran = new ArrayList<>();
            if (!in(shelf, 0, 3) || !in(ask, 0, 3) || !(on(shelf) instanceof Thing)) return 0;
            Thing t = (Thing) on(shelf);
            try {
                return ask == 0 ? t.reaches(x) : ask == 1 ? t.costs(x) : ask == 2 ? t.bears(x) : t.tells(x);
            } catch (ArithmeticException e) {
                return -15;
            }
        }

        private int many(int what) {
            int[] many = {k.w * k.h, k.ends.size(), k.plans.size(), k.scenes.size(), k.lines.size(), k.steps.size(),
                k.jobs.size(), k.trials.size(), rows.size(), tape.length(), Math.min(30, ran.size())};
            return in(what, 0, 10) ? many[what] : -1;
        }
    }
}
