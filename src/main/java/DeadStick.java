import java.util.Arrays;

/** A craft without an engine over a land of cells, and all that is thought and told of it: see DOC.md. */
public final class DeadStick {
    public static final int BAD = -1, FULL = -2, NONE = -3, STATE = -4;

    private static final int NOTHING = -11, OUTSIDE = -12, OTHER_KIND = -13, SIZE_BELOW_0 = -14, PARTED_BY_0 = -15;
    private static final int NO_SUCH = -9;
    private static final int OK = 1;

    private static final int MOST_CELLS = 64, MOST_SIDE = 8, MOST_HEIGHT = 99, LAST_TICK = 200;
    private static final int HEADINGS = 4, SPEEDS = 3, ACTS = 9, STRAIGHT = 4, TABLES = 9;
    private static final int TURN = 3, CHANGE = 4, WIND = 5;
    private static final int NO_COST = 999, LONGEST_FLIGHT = 60, MOST_ASTONISHED = 30, MOST_ROWS = 30;
    private static final int FORM = 0, AT = 1, LEAST = 2, MOST = 3, COST = 4;
    private static final int WEIGHT = 0, GIVES = 1, FROM = 2, MANY = 3;
    private static final int TAKES = 0, DUE = 1, WORTH = 2;
    private static final int TOLD = 0, LATE = 1, CAME = 2;
    private static final int LONGEST_PLAN = 20, LONGEST_SHEET = 64, LONGEST_TAPE = 240, MOST_LINES = 9;
    private static final int BYTES = 0, SHORTS = 1, INTS = 2, BOOLEANS = 4, MISSING = -1;
    private static final int SHELVES = 4, SHEETS = 4;
    private static final int AN_END = 0, A_SCENE = 1, A_ROW = 2, EMPTY = 3;
    private static final int SCENE_FORM = 6, ROW_FORM = 10;

    private final World now = new World();
    private final World kept = new World();
    private boolean isKept = false;
    private final Flight flight = new Flight();
    private final Craft thought = new Craft();
    private final Reach reach = new Reach();
    private final Text text = new Text();
    private final Book book = new Book();
    private final Asks asks = new Asks();
    private final Rows proved = new Rows(MOST_ROWS, 2);
    private final Rows shelves = new Rows(SHELVES, 3);
    private final Sheet[] sheets = {new Sheet(), new Sheet(), new Sheet(), new Sheet()};

    public DeadStick() {
        for (int i = 0; i < SHELVES; i++) {
            shelves.opened();
            shelves.become(i, 0, EMPTY);
        }
    }

    // ---- land, craft

    public int land(int w, int h) {
        if (!isWithin(w, 1, MOST_SIDE) || !isWithin(h, 1, MOST_SIDE)) return BAD;
        if (now.ends.count > 0 || now.craft.cell >= w * h) return STATE;
        now.land.flatten(w, h);
        return OK;
    }

    public int lay(int sheet, int what) {
        if (!isSheet(sheet) || !isWithin(what, 0, 1)) return BAD;
        Sheet from = sheets[sheet];
        int refused = from.refusal(BYTES);
        if (refused < 0) return refused;
        int cells = now.land.cells();
        if (from.count != cells || !from.isAllWithin(0, 99)) return STATE;
        for (int i = 0; i < cells; i++) now.land.lie(i, what, from.number(i));
        return OK;
    }

    public int cellOf(int cell, int what) {
        if (!now.land.has(cell) || !isWithin(what, 0, 1)) return BAD;
        return what == 0 ? now.land.groundOf(cell) : now.land.housesOf(cell);
    }

    public int craft(int what, int v) {
        if (!isWithin(what, 0, 3) || !isWithin(v, 0, mostOfCraft(what))) return BAD;
        int was = now.craft.told(what);
        now.craft.become(what, v);
        return was;
    }

    private int mostOfCraft(int what) {
        switch (what) {
            case 0: return now.land.cells() - 1;
            case 1: return HEADINGS - 1;
            case 2: return SPEEDS - 1;
            default: return MOST_HEIGHT;
        }
    }

    public int craftOf(int what) {
        if (!isWithin(what, 0, 6)) return BAD;
        boolean down = now.land.isDown(now.craft);
        if (what == 5) return down ? 1 : 0;
        if (what == 6) return down ? now.endFor(now.craft) : NO_SUCH;
        return now.craft.told(what);
    }

    public int table(int what, int v) {
        if (!isWithin(what, 0, TABLES - 1)) return BAD;
        int least = what < TURN ? 1 : 0;
        int most = what < WIND ? 9 : 5;
        if (!isWithin(v, least, most)) return BAD;
        int was = now.land.tableOf(what);
        now.land.tables[what] = v;
        return was;
    }

    public int fly(int act) {
        if (!isWithin(act, 0, ACTS - 1)) return BAD;
        return isFlownNow(act) ? now.craft.height : STATE;
    }

    /** Does an ACT in earnest, where it MAY BE and TICKS are left. */
    private boolean isFlownNow(int act) {
        if (now.craft.tick >= LAST_TICK || !now.land.mayBe(now.craft, act)) return false;
        now.land.move(now.craft, act);
        return true;
    }

    public int acts() {
        int bits = 0;
        for (int act = 0; act < ACTS; act++) {
            if (now.land.mayBe(now.craft, act)) bits |= 1 << act;
        }
        return bits;
    }

    // ---- ends, reach

    public int end(int form, int cell, int least, int most, int cost) {
        if (!isWithin(form, 1, 5) || !now.land.has(cell)) return BAD;
        if (!isWithin(least, 0, SPEEDS - 1) || !isWithin(most, least, SPEEDS - 1)) return BAD;
        if (!isWithin(cost, 0, 999)) return BAD;
        int n = now.ends.opened();
        if (n < 0) return FULL;
        now.ends.become(n, FORM, form);
        now.ends.become(n, AT, cell);
        now.ends.become(n, LEAST, least);
        now.ends.become(n, MOST, most);
        now.ends.become(n, COST, cost);
        return n;
    }

    public int endOf(int end, int what) {
        if (!now.ends.has(end) || !isWithin(what, FORM, COST)) return BAD;
        return now.ends.number(end, what);
    }

    public int spare(int end) {
        if (!now.ends.has(end)) return BAD;
        reach.search(now, now.craft, end);
        int height = reach.greatest(now, end);
        if (height < 0) return NONE;
        return Math.max(0, height - now.land.groundOf(now.ends.number(end, AT)));
    }

    public int late(int end) {
        if (!now.ends.has(end)) return BAD;
        thought.become(now.craft);
        int late = NONE;
        // what CAN BE behind more TICKS of straight flight CAN BE behind fewer, so the first failure ends it
        for (int ticks = 0; ticks <= MOST_ASTONISHED; ticks++) {
            reach.search(now, thought, end);
            if (reach.greatest(now, end) < 0) return late;
            late = ticks;
            if (!now.land.mayBe(thought, STRAIGHT)) return late;
            now.land.move(thought, STRAIGHT);
        }
        return late;
    }

    public int can() {
        reach.search(now, now.craft, NONE);
        int bits = 0;
        for (int end = 0; end < now.ends.count; end++) {
            if (reach.greatest(now, end) >= 0) bits |= 1 << end;
        }
        return bits;
    }

    public int bestEnd() {
        reach.search(now, now.craft, NONE);
        int best = NONE;
        int least = 0;
        for (int end = 0; end < now.ends.count; end++) {
            if (reach.greatest(now, end) < 0) continue;
            int costs = now.costsDown(end, now.ends.number(end, AT));
            if (best == NONE || costs < least) {
                best = end;
                least = costs;
            }
        }
        return best;
    }

    // ---- plans, scenes

    public int plan(int sheet) {
        if (!isSheet(sheet)) return BAD;
        Sheet from = sheets[sheet];
        int refused = from.refusal(SHORTS);
        if (refused < 0) return refused;
        if (from.count > LONGEST_PLAN || !from.isAllWithin(0, ACTS - 1)) return STATE;
        int n = now.plans.opened();
        if (n < 0) return FULL;
        now.plans.become(n, LONGEST_PLAN, from.count);
        for (int i = 0; i < from.count; i++) now.plans.become(n, i, from.number(i));
        return n;
    }

    public int planOf(int plan, int i) {
        if (!now.plans.has(plan) || i < -1) return BAD;
        int acts = now.plans.number(plan, LONGEST_PLAN);
        if (i == -1) return acts;
        return i < acts ? now.plans.number(plan, i) : NONE;
    }

    public int scene(int weight, int gives, int from, int many) {
        if (!isWithin(weight, 1, 99) || !isWithin(gives, 0, 9)) return BAD;
        if (!isWithin(from, 0, 20) || !isWithin(many, 0, 20)) return BAD;
        int n = now.scenes.opened();
        if (n < 0) return FULL;
        now.scenes.become(n, WEIGHT, weight);
        now.scenes.become(n, GIVES, gives);
        now.scenes.become(n, FROM, from);
        now.scenes.become(n, MANY, many);
        return n;
    }

    public int flown(int plan, int scene, int what) {
        if (!now.plans.has(plan) || !isWithin(what, 0, 4)) return BAD;
        if (scene != -1 && !now.scenes.has(scene)) return BAD;
        flight.byPlan(now, plan, scene);
        return flight.told(now, what);
    }

    public int odds(int plan, int end, int part) {
        if (!now.plans.has(plan) || !now.ends.has(end) || !isWithin(part, 0, 1)) return BAD;
        if (now.scenes.count == 0) return NONE;
        int comes = 0;
        for (int scene = 0; scene < now.scenes.count; scene++) {
            flight.byPlan(now, plan, scene);
            if (flight.told(now, 0) == end) comes += now.scenes.number(scene, WEIGHT);
        }
        return ofFraction(comes, now.scenes.sum(WEIGHT), part);
    }

    public int mean(int plan, int part) {
        if (!now.plans.has(plan) || !isWithin(part, 0, 1)) return BAD;
        if (now.scenes.count == 0) return NONE;
        return ofFraction(costsInAll(plan), now.scenes.sum(WEIGHT), part);
    }

    /** MEAN times all WEIGHTS: these are the same for each PLAN, so PLANS compare by it. */
    private int costsInAll(int plan) {
        int sum = 0;
        for (int scene = 0; scene < now.scenes.count; scene++) {
            flight.byPlan(now, plan, scene);
            sum += now.scenes.number(scene, WEIGHT) * flight.told(now, 3);
        }
        return sum;
    }

    public int bestPlan() {
        if (now.scenes.count == 0) return NONE;
        int best = NONE;
        int least = 0;
        for (int plan = 0; plan < now.plans.count; plan++) {
            int costs = costsInAll(plan);
            if (best == NONE || costs < least) {
                best = plan;
                least = costs;
            }
        }
        return best;
    }

    // ---- hands, rows

    public int feed(long eight, int n) {
        if (!isWithin(n, 1, 8)) return BAD;
        return text.isAdded(eight, n) ? text.length : FULL;
    }

    public int read() {
        int fault = text.fault();
        text.length = 0;
        if (fault >= 0) return -100 - fault;
        now.hands.become(text.draft);
        return now.hands.count;
    }

    public int line(int i, int what) {
        if (!now.hands.has(i) || !isWithin(what, 0, 1)) return NO_SUCH;
        if (what == 0) return now.hands.does[i];
        return now.hands.holds(i, now.land, now.craft) ? 1 : 0;
    }

    public int hand() {
        return now.actByHands(now.craft);
    }

    public int ruled(int what) {
        if (!isWithin(what, 0, 4)) return BAD;
        flight.byHands(now);
        return flight.told(now, what);
    }

    public int prove(int plan) {
        if (!now.plans.has(plan)) return BAD;
        flight.byPlan(now, plan, -1);
        proved.become(flight.log);
        return proved.count;
    }

    public int row(int i, int what) {
        if (!proved.has(i) || !isWithin(what, 0, 1)) return NO_SUCH;
        return proved.number(i, what);
    }

    public int alterRow(int i, int what, int v) {
        if (!proved.has(i) || !isWithin(what, 0, 1)) return NO_SUCH;
        int was = proved.number(i, what);
        proved.become(i, what, v);
        return was;
    }

    public int judge() {
        thought.become(now.craft);
        for (int i = 0; i < proved.count; i++) {
            int act = proved.number(i, 0);
            if (!now.land.mayBe(thought, act)) return i + 1;
            now.land.move(thought, act);
            if (thought.height != proved.number(i, 1)) return i + 1;
        }
        return proved.count < MOST_ROWS && now.land.mayBe(thought, STRAIGHT) ? 99 : 0;
    }

    // ---- a book, work for two, trials

    public int step(int takes, int due, int worth) {
        if (!isWithin(takes, 1, 20) || !isWithin(due, 1, 99) || !isWithin(worth, 1, 99)) return BAD;
        int n = now.steps.opened();
        if (n < 0) return FULL;
        now.steps.become(n, TAKES, takes);
        now.steps.become(n, DUE, due);
        now.steps.become(n, WORTH, worth);
        return n;
    }

    public int worth(int what) {
        if (!isWithin(what, 0, 1)) return BAD;
        return what == 0 ? book.asItStands(now.steps) : book.greatest(now.steps);
    }

    public int order(int i) {
        if (!now.steps.has(i)) return BAD;
        return book.inOrder(now.steps, i);
    }

    public int job(int ticks) {
        if (!isWithin(ticks, 1, 50)) return BAD;
        int n = now.jobs.opened();
        if (n < 0) return FULL;
        now.jobs.become(n, 0, ticks);
        return n;
    }

    public int shared(int what) {
        if (!isWithin(what, 0, 1)) return BAD;
        int all = now.jobs.sum(0);
        int earliest = all;
        int best = 0;
        for (int set = 0; set < 1 << now.jobs.count; set++) {
            int first = now.jobs.sumOfSet(set, 0);
            int done = Math.max(first, all - first);
            if (done < earliest) {
                earliest = done;
                best = set;
            }
        }
        return what == 0 ? earliest : best;
    }

    public int trial(boolean told, int late, int came) {
        if (!isWithin(late, 0, 60) || !isWithin(came, -1, 7)) return BAD;
        int n = now.trials.opened();
        if (n < 0) return FULL;
        now.trials.become(n, TOLD, told ? 1 : 0);
        now.trials.become(n, LATE, late);
        now.trials.become(n, CAME, came);
        return n;
    }

    public int fair(int end, int n, boolean told, int part) {
        if (!isWithin(end, 0, 7) || !isWithin(n, 0, 60) || !isWithin(part, 0, 1)) return BAD;
        int such = 0;
        int came = 0;
        for (int i = 0; i < now.trials.count; i++) {
            boolean wasTold = now.trials.number(i, TOLD) == 1;
            if (wasTold != told || now.trials.number(i, LATE) < n) continue;
            such++;
            if (now.trials.number(i, CAME) == end) came++;
        }
        return such == 0 ? NONE : ofFraction(came, such, part);
    }

    // ---- the host of all

    public int sheet(int sheet, int sort, int n) {
        if (!isSheet(sheet) || !isWithin(sort, MISSING, BOOLEANS)) return BAD;
        if (sort != MISSING && n > LONGEST_SHEET) return BAD;
        if (sort != MISSING && n < 0) return SIZE_BELOW_0;
        sheets[sheet].renew(sort, sort == MISSING ? 0 : n);
        return OK;
    }

    public int put(int sheet, int i, int v) {
        if (!isSheet(sheet)) return BAD;
        Sheet to = sheets[sheet];
        if (to.sort == MISSING) return NOTHING;
        if (!to.has(i)) return OUTSIDE;
        to.take(i, v);
        return OK;
    }

    public int item(int sheet, int sort, int i) {
        if (!isSheet(sheet) || !isWithin(sort, BYTES, BOOLEANS)) return BAD;
        Sheet from = sheets[sheet];
        int refused = from.refusal(sort);
        if (refused < 0) return refused;
        return from.has(i) ? from.number(i) : OUTSIDE;
    }

    public int flies(int sheet, int i, int n) {
        if (!isSheet(sheet) || !isWithin(n, 0, 30)) return BAD;
        Sheet from = sheets[sheet];
        int refused = from.refusal(INTS);
        if (refused < 0) return refused;
        int done = 0;
        for (int k = 0; k < n; k++) {
            if (!from.has(i + k)) return OUTSIDE;
            if (isFlownNow(from.number(i + k))) done++;
        }
        return done;
    }

    public int shelf(int shelf, int what, int n) {
        if (!shelves.has(shelf)) return BAD;
        switch (what) {
            case AN_END: return now.ends.has(n) ? held(shelf, AN_END, n, 0) : BAD;
            case A_SCENE: return now.scenes.has(n) ? held(shelf, A_SCENE, n, 0) : BAD;
            case A_ROW: return isSheet(n) ? heldRow(shelf, sheets[n]) : BAD;
            case EMPTY: return held(shelf, EMPTY, 0, 0);
            default: return BAD;
        }
    }

    /** The row itself is held, not the SHEET: the SHEET may become another row later. */
    private int heldRow(int shelf, Sheet from) {
        if (from.sort == MISSING) return held(shelf, EMPTY, 0, 0);
        return held(shelf, A_ROW, from.count, from.sort);
    }

    private int held(int shelf, int what, int n, int sort) {
        shelves.become(shelf, 0, what);
        shelves.become(shelf, 1, n);
        shelves.become(shelf, 2, sort);
        return OK;
    }

    /** FORM of what a SHELF holds, ROW_FORM and more for a row by its sort, NOTHING for nothing. */
    private int formOn(int shelf) {
        int n = shelves.number(shelf, 1);
        switch (shelves.number(shelf, 0)) {
            case AN_END: return now.ends.has(n) ? now.ends.number(n, FORM) : NOTHING;
            case A_SCENE: return now.scenes.has(n) ? SCENE_FORM : NOTHING;
            case A_ROW: return ROW_FORM + shelves.number(shelf, 2);
            default: return NOTHING;
        }
    }

    public int taken(int shelf, int as) {
        boolean isKind = isWithin(as, 0, SCENE_FORM) || isWithin(as, ROW_FORM, ROW_FORM + BOOLEANS);
        if (!shelves.has(shelf) || !isKind) return BAD;
        int form = formOn(shelf);
        if (form < 0) return NOTHING;
        return asks.isUnder(form, as) ? shelves.number(shelf, 1) : OTHER_KIND;
    }

    public int ask(int shelf, int ask, int x) {
        asks.count = 0;
        if (!shelves.has(shelf) || !isWithin(ask, 0, 3)) return 0;
        int form = formOn(shelf);
        if (!isWithin(form, 0, SCENE_FORM)) return 0;
        int n = shelves.number(shelf, 1);
        int amount = form == SCENE_FORM ? now.scenes.number(n, WEIGHT) : now.ends.number(n, COST);
        return asks.answer(form, n, amount, ask, x);
    }

    public int trace(int i) {
        return i >= 0 && i < asks.count ? asks.ran[i] : NONE;
    }

    public int many(int what) {
        switch (what) {
            case 0: return now.land.cells();
            case 1: return now.ends.count;
            case 2: return now.plans.count;
            case 3: return now.scenes.count;
            case 4: return now.hands.count;
            case 5: return now.steps.count;
            case 6: return now.jobs.count;
            case 7: return now.trials.count;
            case 8: return proved.count;
            case 9: return text.length;
            case 10: return asks.count;
            default: return BAD;
        }
    }

    // ---- kept

    public int keep() {
        kept.become(now);
        isKept = true;
        return OK;
    }

    public int again() {
        if (!isKept) return NONE;
        now.become(kept);
        return OK;
    }

    // ---- small things for all

    private static boolean isWithin(int v, int least, int most) {
        return v >= least && v <= most;
    }

    private boolean isSheet(int sheet) {
        return sheet >= 0 && sheet < SHEETS;
    }

    /** A part of above by below in lowest terms; below is above 0. */
    private static int ofFraction(int above, int below, int part) {
        int common = below;
        int rest = above;
        for (int i = 0; i < 100 && rest != 0; i++) {
            int next = common % rest;
            common = rest;
            rest = next;
        }
        if (common == 0) return 0;
        return part == 0 ? above / common : below / common;
    }

    /** Rows of numbers, up to a count that is fixed, as wide as one another. */
    private static final class Rows {
        final int most;
        final int wide;
        final int[] numbers;
        int count = 0;

        Rows(int most, int wide) {
            this.most = Math.max(0, most);
            this.wide = Math.max(0, wide);
            numbers = new int[this.most * this.wide];
        }

        boolean has(int i) {
            return i >= 0 && i < count;
        }

        /** The number of a new row, or FULL. */
        int opened() {
            if (count >= most) return FULL;
            count++;
            return count - 1;
        }

        int number(int i, int k) {
            return has(i) && k >= 0 && k < wide ? numbers[i * wide + k] : 0;
        }

        void become(int i, int k, int v) {
            if (has(i) && k >= 0 && k < wide) numbers[i * wide + k] = v;
        }

        int sum(int k) {
            int sum = 0;
            for (int i = 0; i < count; i++) sum += number(i, k);
            return sum;
        }

        int sumOfSet(int set, int k) {
            int sum = 0;
            for (int i = 0; i < count; i++) {
                if ((set >> i & 1) == 1) sum += number(i, k);
            }
            return sum;
        }

        void become(Rows other) {
            if (other.numbers.length != numbers.length) return;
            System.arraycopy(other.numbers, 0, numbers, 0, numbers.length);
            count = other.count;
        }
    }

    private static final class Craft {
        int cell = 0;
        int heading = 1;
        int speed = 1;
        int height = 60;
        int tick = 0;

        int told(int what) {
            switch (what) {
                case 0: return cell;
                case 1: return heading;
                case 2: return speed;
                case 3: return height;
                default: return tick;
            }
        }

        void become(int what, int v) {
            switch (what) {
                case 0: cell = v; break;
                case 1: heading = v; break;
                case 2: speed = v; break;
                default: height = v; break;
            }
        }

        void become(Craft other) {
            cell = other.cell;
            heading = other.heading;
            speed = other.speed;
            height = other.height;
            tick = other.tick;
        }
    }

    /** THE LAND and TABLES: what an ACT does to THE CRAFT follows from these alone. */
    private static final class Land {
        private static final int[] EAST = {0, 1, 0, -1};
        private static final int[] SOUTH = {-1, 0, 1, 0};
        private static final int OFF = -1;

        int wide = MOST_SIDE;
        int high = MOST_SIDE;
        final int[] ground = new int[MOST_CELLS];
        final int[] houses = new int[MOST_CELLS];
        final int[] tables = {3, 2, 4, 2, 1, 0, 0, 0, 0};

        int cells() {
            return wide * high;
        }

        boolean has(int cell) {
            return cell >= 0 && cell < wide * high && cell < MOST_CELLS;
        }

        int groundOf(int cell) {
            return cell >= 0 && cell < MOST_CELLS ? ground[cell] : 0;
        }

        int housesOf(int cell) {
            return cell >= 0 && cell < MOST_CELLS ? houses[cell] : 0;
        }

        int tableOf(int what) {
            return what >= 0 && what < TABLES ? tables[what] : 0;
        }

        void flatten(int w, int h) {
            wide = w;
            high = h;
            Arrays.fill(ground, 0);
            Arrays.fill(houses, 0);
        }

        void lie(int cell, int what, int v) {
            if (!has(cell)) return;
            if (what == 0) ground[cell] = v;
            else houses[cell] = v;
        }

        boolean isDown(Craft craft) {
            return craft.height <= groundOf(craft.cell);
        }

        static int headingBehind(int heading, int act) {
            return heading + act / 3 - 1 & 3;
        }

        static int speedBehind(int speed, int act) {
            return speed + act % 3 - 1;
        }

        /** The cell to which it goes on, or OFF: where this one is on THE LAND, one between is, too. */
        int ahead(int cell, int heading, int speed) {
            if (wide < 1 || !has(cell) || heading < 0 || heading >= HEADINGS) return OFF;
            int far = speed == 2 ? 2 : 1;
            int column = cell % wide + far * EAST[heading];
            int line = cell / wide + far * SOUTH[heading];
            boolean isOn = column >= 0 && column < wide && line >= 0 && line < high;
            return isOn ? line * wide + column : OFF;
        }

        /** What an ACT takes of HEIGHT, of the HEADING and SPEED behind it. */
        int loss(int heading, int speed, int act) {
            int less = tableOf(speed) + tableOf(WIND + heading);
            if (act / 3 != 1) less += tables[TURN];
            if (act % 3 != 1) less += tables[CHANGE];
            return less;
        }

        boolean mayBe(Craft craft, int act) {
            if (act < 0 || act >= ACTS || isDown(craft)) return false;
            int speed = speedBehind(craft.speed, act);
            if (speed < 0 || speed >= SPEEDS) return false;
            return ahead(craft.cell, headingBehind(craft.heading, act), speed) != OFF;
        }

        /** Does an ACT that MAY BE. */
        void move(Craft craft, int act) {
            craft.heading = headingBehind(craft.heading, act);
            craft.speed = speedBehind(craft.speed, act);
            craft.cell = ahead(craft.cell, craft.heading, craft.speed);
            craft.height = Math.max(0, craft.height - loss(craft.heading, craft.speed, act));
            craft.tick++;
        }

        void become(Land other) {
            wide = other.wide;
            high = other.high;
            System.arraycopy(other.ground, 0, ground, 0, MOST_CELLS);
            System.arraycopy(other.houses, 0, houses, 0, MOST_CELLS);
            System.arraycopy(other.tables, 0, tables, 0, TABLES);
        }
    }

    /** All that keep() keeps. */
    private static final class World {
        final Land land = new Land();
        final Craft craft = new Craft();
        final Rows ends = new Rows(8, 5);
        /** ACTS of each PLAN, and behind them how many these are. */
        final Rows plans = new Rows(4, LONGEST_PLAN + 1);
        final Rows scenes = new Rows(5, 4);
        final Hands hands = new Hands();
        final Rows steps = new Rows(7, 3);
        final Rows jobs = new Rows(8, 1);
        final Rows trials = new Rows(20, 3);

        void become(World other) {
            land.become(other.land);
            craft.become(other.craft);
            ends.become(other.ends);
            plans.become(other.plans);
            scenes.become(other.scenes);
            hands.become(other.hands);
            steps.become(other.steps);
            jobs.become(other.jobs);
            trials.become(other.trials);
        }

        boolean isGood(int end, int cell, int speed) {
            return ends.has(end) && ends.number(end, AT) == cell
                && speed >= ends.number(end, LEAST) && speed <= ends.number(end, MOST);
        }

        /** The END to which a craft that is DOWN comes, or NO_SUCH. */
        int endFor(Craft down) {
            for (int end = 0; end < ends.count; end++) {
                if (isGood(end, down.cell, down.speed)) return end;
            }
            return NO_SUCH;
        }

        int costsDown(int end, int cell) {
            int cost = ends.has(end) ? ends.number(end, COST) : NO_COST;
            return cost + land.housesOf(cell);
        }

        /** The ACT if it MAY BE, or else the straight one if that MAY BE, or else NONE. */
        int orStraight(Craft at, int act) {
            if (land.mayBe(at, act)) return act;
            return land.mayBe(at, STRAIGHT) ? STRAIGHT : NONE;
        }

        int planned(int plan, int tick) {
            return tick < plans.number(plan, LONGEST_PLAN) ? plans.number(plan, tick) : STRAIGHT;
        }

        /** What the ENGINE of a SCENE gives in a TICK from now on; of no SCENE it is 0. */
        int given(int scene, int tick) {
            int from = scenes.number(scene, FROM);
            boolean gives = tick >= from && tick < from + scenes.number(scene, MANY);
            return gives ? scenes.number(scene, GIVES) : 0;
        }

        int actByHands(Craft at) {
            int turn = hands.chosen(land, at, 0);
            int pace = hands.chosen(land, at, 2);
            return orStraight(at, 3 * turn + pace);
        }
    }

    /** A flight in thought from now on, and its first ROWS. */
    private static final class Flight {
        final Craft at = new Craft();
        final Rows log = new Rows(MOST_ROWS, 2);
        int ticks = 0;

        void byPlan(World world, int plan, int scene) {
            begin(world);
            for (int tick = 0; tick < LONGEST_FLIGHT && !world.land.isDown(at); tick++) {
                int act = world.orStraight(at, world.planned(plan, tick));
                if (act < 0) return;
                go(world, act, world.given(scene, tick));
            }
        }

        void byHands(World world) {
            begin(world);
            for (int tick = 0; tick < LONGEST_FLIGHT && !world.land.isDown(at); tick++) {
                int act = world.actByHands(at);
                if (act < 0) return;
                go(world, act, 0);
            }
        }

        private void begin(World world) {
            at.become(world.craft);
            log.count = 0;
            ticks = 0;
        }

        private void go(World world, int act, int gives) {
            world.land.move(at, act);
            at.height = Math.min(MOST_HEIGHT, at.height + gives);
            ticks++;
            int n = log.opened();
            log.become(n, 0, act);
            log.become(n, 1, at.height);
        }

        int told(World world, int what) {
            boolean down = world.land.isDown(at);
            int end = down ? world.endFor(at) : NO_SUCH;
            switch (what) {
                case 0: return end;
                case 1: return at.cell;
                case 2: return ticks;
                case 3: return down ? world.costsDown(end, at.cell) : NO_COST;
                default: return down ? 1 : 0;
            }
        }
    }

    /**
     * The greatest HEIGHT with which THE CRAFT can be at each place: a cell with a HEADING and a SPEED. More HEIGHT at
     * a place never hinders, and each ACT takes some, so places are gone through from the highest one down.
     */
    private static final class Reach {
        private static final int AT_A_CELL = HEADINGS * SPEEDS, PLACES = MOST_CELLS * AT_A_CELL, NO_PLACE = -1;

        final int[] best = new int[PLACES];
        /** The places that wait at each HEIGHT, as chains. */
        final int[] first = new int[MOST_HEIGHT + 1];
        final int[] next = new int[PLACES];
        final int[] previous = new int[PLACES];

        /** Goes through all places, or till the goal, an END, is met; with NONE for a goal through all. */
        void search(World world, Craft from, int goal) {
            Arrays.fill(best, NONE);
            Arrays.fill(first, NO_PLACE);
            offer(from.cell, from.heading, from.speed, from.height);
            for (int height = MOST_HEIGHT; height >= 0; height--) {
                for (int i = 0; i < PLACES && isPlace(first[height]); i++) {
                    int place = first[height];
                    unchain(place, height);
                    int cell = place / AT_A_CELL;
                    if (world.isGood(goal, cell, place % SPEEDS)) return;
                    if (height > world.land.groundOf(cell)) spread(world.land, place, height);
                }
            }
        }

        private void spread(Land land, int place, int height) {
            int cell = place / AT_A_CELL;
            int heading = place / SPEEDS % HEADINGS;
            int speed = place % SPEEDS;
            for (int act = 0; act < ACTS; act++) {
                int newSpeed = Land.speedBehind(speed, act);
                if (newSpeed < 0 || newSpeed >= SPEEDS) continue;
                int newHeading = Land.headingBehind(heading, act);
                int newCell = land.ahead(cell, newHeading, newSpeed);
                if (newCell == Land.OFF) continue;
                int newHeight = Math.max(0, height - land.loss(newHeading, newSpeed, act));
                offer(newCell, newHeading, newSpeed, newHeight);
            }
        }

        private void offer(int cell, int heading, int speed, int height) {
            int place = placeOf(cell, heading, speed);
            if (!isPlace(place) || !isHeight(height)) return;
            if (best[place] >= height) return;
            if (best[place] >= 0) unchain(place, best[place]);
            best[place] = height;
            chain(place, height);
        }

        private static int placeOf(int cell, int heading, int speed) {
            return cell * AT_A_CELL + heading * SPEEDS + speed;
        }

        private static boolean isPlace(int place) {
            return place >= 0 && place < PLACES;
        }

        private static boolean isHeight(int height) {
            return height >= 0 && height <= MOST_HEIGHT;
        }

        private void chain(int place, int height) {
            if (!isPlace(place) || !isHeight(height)) return;
            int behind = first[height];
            previous[place] = NO_PLACE;
            next[place] = behind;
            if (isPlace(behind)) previous[behind] = place;
            first[height] = place;
        }

        private void unchain(int place, int height) {
            if (!isPlace(place) || !isHeight(height)) return;
            int ahead = previous[place];
            int behind = next[place];
            if (isPlace(ahead)) next[ahead] = behind;
            else first[height] = behind;
            if (isPlace(behind)) previous[behind] = ahead;
        }

        /** Behind a search: the greatest HEIGHT at an END's cell with a good SPEED, below 0 if it CAN'T BE. */
        int greatest(World world, int end) {
            int cell = world.ends.number(end, AT);
            int greatest = NONE;
            for (int heading = 0; heading < HEADINGS; heading++) {
                for (int speed = 0; speed < SPEEDS; speed++) {
                    int place = placeOf(cell, heading, speed);
                    if (!isPlace(place) || !world.isGood(end, cell, speed)) continue;
                    greatest = Math.max(greatest, best[place]);
                }
            }
            return greatest;
        }
    }

    /**
     * LINES of HANDS as a code that is run on a stack of bits: a COND of LINE i stands from firsts[i] up to
     * firsts[i + 1], what is joined ahead of what joins it.
     */
    private static final class Hands {
        static final int NOT = 0, AND = 1, OR = 2, SIGNS = 3;
        /** VALUES are NUMBERS up to 999, or from NAMED on what NAMES tell. */
        static final int NAMED = 1000, VALUES = 1024;

        final int[] does = new int[MOST_LINES];
        final int[] firsts = new int[MOST_LINES + 1];
        final int[] code = new int[LONGEST_TAPE];
        int count = 0;

        boolean has(int i) {
            return i >= 0 && i < count && i < MOST_LINES;
        }

        void begin() {
            count = 0;
            firsts[0] = 0;
        }

        void open(int doing) {
            if (count >= MOST_LINES) return;
            does[count] = doing;
            count++;
            firsts[count] = firsts[count - 1];
        }

        void add(int what) {
            if (count < 0 || count > MOST_LINES) return;
            int end = firsts[count];
            if (end < 0 || end >= LONGEST_TAPE) return;
            code[end] = what;
            firsts[count] = end + 1;
        }

        static int coded(int sign, int left, int right) {
            return SIGNS + (sign * VALUES + left) * VALUES + right;
        }

        boolean holds(int i, Land land, Craft craft) {
            if (!has(i)) return false;
            int stack = 0;
            int end = Math.min(firsts[i + 1], LONGEST_TAPE);
            for (int k = Math.max(firsts[i], 0); k < end; k++) {
                int what = code[k];
                int top = stack & 1;
                switch (what) {
                    case NOT: stack ^= 1; break;
                    case AND: stack = stack >>> 1 & ~(1 - top); break;
                    case OR: stack = stack >>> 1 | top; break;
                    default:
                        int left = value((what - SIGNS) / VALUES % VALUES, land, craft);
                        int right = value((what - SIGNS) % VALUES, land, craft);
                        stack = stack << 1 | compared((what - SIGNS) / VALUES / VALUES, left, right);
                        break;
                }
            }
            return (stack & 1) == 1;
        }

        private static int compared(int sign, int left, int right) {
            switch (sign) {
                case 0: return left < right ? 1 : 0;
                case 1: return left == right ? 1 : 0;
                default: return left > right ? 1 : 0;
            }
        }

        private static int value(int what, Land land, Craft craft) {
            if (what < NAMED) return what;
            switch (what - NAMED) {
                case 0: return craft.height;
                case 1: return craft.speed;
                case 2: return craft.heading;
                case 3: return craft.tick;
                case 4: return land.groundOf(craft.cell);
                case 5: return land.housesOf(craft.cell);
                default: return Math.max(0, craft.height - land.groundOf(craft.cell));
            }
        }

        /** 0 or 2 by the first LINE that holds and does the one (0) or the other (2) of two things, or else 1. */
        int chosen(Land land, Craft craft, int one) {
            for (int i = 0; i < count && i < MOST_LINES; i++) {
                boolean isOfThese = does[i] == one || does[i] == one + 1;
                if (isOfThese && holds(i, land, craft)) return does[i] == one ? 0 : 2;
            }
            return 1;
        }

        void become(Hands other) {
            System.arraycopy(other.does, 0, does, 0, MOST_LINES);
            System.arraycopy(other.firsts, 0, firsts, 0, MOST_LINES + 1);
            System.arraycopy(other.code, 0, code, 0, LONGEST_TAPE);
            count = other.count;
        }
    }

    /** THE TAPE and its reading: a method that answers false leaves the part in view with which the FAULT begins. */
    private static final class Text {
        private static final String WORDS =
            "left right slower faster if or and not height speed heading tick ground houses clear ";
        private static final int FASTER = 3, IF = 4, WORD_OR = 5, WORD_AND = 6, WORD_NOT = 7, HEIGHT = 8, UNKNOWN = 15;
        private static final int STOP = 0, NAME = 1, NUMBER = 2, OTHER = 3, WRONG = 4;
        private static final int MOST_OPEN = 4, MOST_DIGITS = 3;

        final byte[] tape = new byte[LONGEST_TAPE];
        int length = 0;
        final Hands draft = new Hands();
        /** The parts of THE TAPE: where each begins, its kind, and its word, number or byte; the last is a STOP. */
        private final int[] places = new int[LONGEST_TAPE + 1];
        private final int[] kinds = new int[LONGEST_TAPE + 1];
        private final int[] whats = new int[LONGEST_TAPE + 1];
        private int parts = 0;
        /** The part in view, and where on THE TAPE it begins. */
        private int view = 0;
        private int begins = 0;
        private int kind = STOP;
        private int what = 0;

        boolean isAdded(long eight, int n) {
            if (n < 0 || n > LONGEST_TAPE - length) return false;
            for (int i = 0; i < n; i++) tape[length + i] = (byte) (eight >>> 8 * i);
            length += n;
            return true;
        }

        /** The FAULT, or -1 if draft has become the LINES of THE TAPE. */
        int fault() {
            split();
            draft.begin();
            look(0);
            boolean good = true;
            for (int i = 0; i < MOST_LINES && good && kind != STOP; i++) good = isLine();
            return good && kind == STOP ? -1 : begins;
        }

        private void split() {
            parts = 0;
            int place = 0;
            for (int i = 0; i < LONGEST_TAPE && place < length; i++) {
                int end = place + 1;
                int sign = at(place);
                if (isLetter(sign)) {
                    for (int k = 0; k < LONGEST_TAPE && isLetter(at(end)); k++) end++;
                    add(place, NAME, word(place, end));
                } else if (isDigit(sign)) {
                    for (int k = 0; k < LONGEST_TAPE && isDigit(at(end)); k++) end++;
                    add(place, end - place <= MOST_DIGITS ? NUMBER : WRONG, digits(place, end));
                } else if (sign != ' ') {
                    add(place, OTHER, sign);
                }
                place = end;
            }
            add(length, STOP, 0);
        }

        private void add(int place, int newKind, int newWhat) {
            if (parts > LONGEST_TAPE) return;
            places[parts] = place;
            kinds[parts] = newKind;
            whats[parts] = newWhat;
            parts++;
        }

        /** The byte at a place, or -1, which begins and goes on with nothing. */
        private int at(int i) {
            return i >= 0 && i < length && i < LONGEST_TAPE ? tape[i] : -1;
        }

        private static boolean isLetter(int sign) {
            return sign >= 'a' && sign <= 'z';
        }

        private static boolean isDigit(int sign) {
            return sign >= '0' && sign <= '9';
        }

        private int digits(int from, int end) {
            int number = 0;
            for (int i = Math.max(from, 0); i < end && i < length; i++) number = number * 10 + at(i) - '0';
            return number;
        }

        /** The number of a NAME among WORDS, or UNKNOWN. */
        private int word(int from, int end) {
            int number = 0;
            int i = from;
            boolean same = true;
            for (int k = 0; k < WORDS.length(); k++) {
                char sign = WORDS.charAt(k);
                if (sign == ' ') {
                    if (same && i == end) return number;
                    number++;
                    i = from;
                    same = true;
                } else {
                    same = same && i < end && at(i) == sign;
                    i++;
                }
            }
            return UNKNOWN;
        }

        /** Takes a part in view; behind the last it stays the last. */
        private void look(int part) {
            if (part < 0 || part >= parts) return;
            view = part;
            begins = places[part];
            kind = kinds[part];
            what = whats[part];
        }

        private boolean isLine() {
            if (kind != NAME || what > FASTER) return false;
            draft.open(what);
            look(view + 1);
            if (!isWord(IF)) return false;
            look(view + 1);
            if (!isCond(0) || !isByte(';')) return false;
            look(view + 1);
            return true;
        }

        private boolean isCond(int open) {
            if (!isAll(open)) return false;
            for (int i = 0; i < LONGEST_TAPE && isWord(WORD_OR); i++) {
                look(view + 1);
                if (!isAll(open)) return false;
                draft.add(Hands.OR);
            }
            return true;
        }

        private boolean isAll(int open) {
            if (!isOne(open)) return false;
            for (int i = 0; i < LONGEST_TAPE && isWord(WORD_AND); i++) {
                look(view + 1);
                if (!isOne(open)) return false;
                draft.add(Hands.AND);
            }
            return true;
        }

        private boolean isOne(int open) {
            boolean negated = false;
            for (int i = 0; i < LONGEST_TAPE && isWord(WORD_NOT); i++) {
                negated = !negated;
                look(view + 1);
            }
            boolean good = isByte('(') ? isInBrackets(open) : isComparison();
            if (good && negated) draft.add(Hands.NOT);
            return good;
        }

        private boolean isInBrackets(int open) {
            if (open >= MOST_OPEN) return false;
            look(view + 1);
            if (!isCond(open + 1) || !isByte(')')) return false;
            look(view + 1);
            return true;
        }

        private boolean isComparison() {
            if (!isValue()) return false;
            int left = value();
            look(view + 1);
            int sign = isByte('<') ? 0 : isByte('=') ? 1 : isByte('>') ? 2 : -1;
            if (sign < 0) return false;
            look(view + 1);
            if (!isValue()) return false;
            draft.add(Hands.coded(sign, left, value()));
            look(view + 1);
            return true;
        }

        private boolean isValue() {
            return kind == NUMBER || kind == NAME && what >= HEIGHT && what < UNKNOWN;
        }

        private int value() {
            return kind == NUMBER ? what : Hands.NAMED + what - HEIGHT;
        }

        private boolean isWord(int word) {
            return kind == NAME && what == word;
        }

        private boolean isByte(char sign) {
            return kind == OTHER && what == sign;
        }
    }

    /** Orders of STEPS. When a STEP begins follows from the set of those ahead of it, whatever their order. */
    private static final class Book {
        private static final int MOST_STEPS = 7;

        /** The greatest sum of WORTHS that can count yet, behind each set of STEPS. */
        final int[] best = new int[1 << MOST_STEPS];

        int asItStands(Rows steps) {
            int sum = 0;
            int ahead = 0;
            for (int i = 0; i < steps.count; i++) {
                sum += counting(steps, i, steps.sumOfSet(ahead, TAKES));
                ahead |= 1 << i;
            }
            return sum;
        }

        int greatest(Rows steps) {
            weigh(steps);
            return best[0];
        }

        int inOrder(Rows steps, int which) {
            weigh(steps);
            int ahead = 0;
            int step = BAD;
            for (int i = 0; i <= which && i < MOST_STEPS; i++) {
                step = firstBest(steps, ahead);
                if (step < 0) return BAD;
                ahead |= 1 << step;
            }
            return step;
        }

        private void weigh(Rows steps) {
            int all = (1 << Math.min(steps.count, MOST_STEPS)) - 1;
            best[all] = 0;
            for (int ahead = all - 1; ahead >= 0; ahead--) {
                int from = steps.sumOfSet(ahead, TAKES);
                int greatest = 0;
                for (int i = 0; i < steps.count && i < MOST_STEPS; i++) {
                    if ((ahead >> i & 1) == 1) continue;
                    greatest = Math.max(greatest, counting(steps, i, from) + best[ahead | 1 << i]);
                }
                best[ahead] = greatest;
            }
        }

        private int firstBest(Rows steps, int ahead) {
            if (ahead < 0 || ahead >= best.length) return BAD;
            int from = steps.sumOfSet(ahead, TAKES);
            for (int i = 0; i < steps.count && i < MOST_STEPS; i++) {
                if ((ahead >> i & 1) == 1) continue;
                if (counting(steps, i, from) + best[ahead | 1 << i] == best[ahead]) return i;
            }
            return BAD;
        }

        private static int counting(Rows steps, int i, int from) {
            return from + steps.number(i, TAKES) <= steps.number(i, DUE) ? steps.number(i, WORTH) : 0;
        }
    }

    /** A row of one sort, or missing. Its items are ints that have been narrowed as they came. */
    private static final class Sheet {
        int sort = MISSING;
        int count = 0;
        private final int[] items = new int[LONGEST_SHEET];

        void renew(int newSort, int n) {
            sort = newSort;
            count = n;
            Arrays.fill(items, 0);
        }

        boolean has(int i) {
            return i >= 0 && i < count && i < LONGEST_SHEET;
        }

        int number(int i) {
            return has(i) ? items[i] : 0;
        }

        void take(int i, int v) {
            if (!has(i)) return;
            switch (sort) {
                case BYTES: items[i] = (byte) v; break;
                case SHORTS: items[i] = (short) v; break;
                case BOOLEANS: items[i] = v != 0 ? 1 : 0; break;
                default: items[i] = v; break;
            }
        }

        /** What hinders that it is taken for a sort: OTHER_KIND, NOTHING, or 0. */
        int refusal(int as) {
            if (sort == MISSING) return NOTHING;
            return sort == as ? 0 : OTHER_KIND;
        }

        boolean isAllWithin(int least, int most) {
            for (int i = 0; i < count && i < LONGEST_SHEET; i++) {
                if (!isWithin(number(i), least, most)) return false;
            }
            return true;
        }
    }

    /** ASKS of a thing, and THE TRACE. */
    private static final class Asks {
        private static final int REACHES = 0, COSTS = 1, BEARS = 2, TELLS = 3;
        private static final int END = 0, FIELD = 1, ROAD = 2;
        private static final int FORMS = 7, ASKS = 4, MOST_DEEP = 40;
        /** The FORM above each FORM. */
        private static final int[] ABOVE = {-1, END, FIELD, END, END, ROAD, -1};
        /** The bodies of each FORM by ASKS, 0 where it has none of its own. */
        private static final int[] BODIES = {
            10, 11, 12, 13,
            0, 20, 0, 0,
            30, 0, 0, 31,
            0, 40, 0, 0,
            0, 0, 50, 0,
            60, 61, 0, 0,
            70, 71, 72, 73,
        };

        final int[] ran = new int[30];
        int count = 0;
        private int form = 0;
        private int n = 0;
        private int a = 0;
        private boolean parted = false;

        /** Whether a FORM is another one or under it; a row's FORM is under none but itself. */
        boolean isUnder(int under, int as) {
            int one = under;
            for (int i = 0; i < FORMS && one >= 0 && one != as; i++) one = above(one);
            return one == as;
        }

        int answer(int ofForm, int number, int amount, int ask, int x) {
            form = ofForm;
            n = number;
            a = amount;
            parted = false;
            int answer = asked(form, ask, x, 0);
            return parted ? PARTED_BY_0 : answer;
        }

        private static int above(int one) {
            return one >= 0 && one < FORMS ? ABOVE[one] : -1;
        }

        private static int body(int one, int ask) {
            return one >= 0 && one < FORMS && ask >= 0 && ask < ASKS ? BODIES[one * ASKS + ask] : 0;
        }

        /** Runs the body that a FORM has itself, or else the nearest one above it. */
        private int asked(int from, int ask, int x, int depth) {
            int one = from;
            for (int i = 0; i < FORMS && one >= 0 && body(one, ask) == 0; i++) one = above(one);
            if (one < 0 || depth >= MOST_DEEP) return 0;
            return run(body(one, ask), x, depth + 1);
        }

        private int run(int body, int x, int depth) {
            if (count < ran.length) {
                ran[count] = body;
                count++;
            }
            switch (body) {
                case 10: return x + a;
                case 11: return asked(form, REACHES, x, depth) * 2;
                case 12: return quotient(x, a - n);
                case 13: return asked(form, COSTS, x, depth) ^ n;
                case 20: return asked(END, COSTS, x, depth) - 3;
                case 30: return asked(FIELD, REACHES, x, depth) * 5;
                case 31: return asked(FIELD, TELLS, x, depth) + asked(form, BEARS, n + 2, depth);
                case 40: return 0 - asked(END, COSTS, x, depth);
                case 50: return asked(END, BEARS, x + 1, depth);
                case 60: return asked(ROAD, REACHES, x, depth) ^ a;
                case 61: return asked(ROAD, COSTS, x, depth) + asked(ROAD, REACHES, n, depth);
                case 70: return a - x;
                case 71: return asked(form, REACHES, x, depth) + n;
                case 72: return x & a;
                case 73: return asked(form, COSTS, x, depth) - asked(form, BEARS, x, depth);
                default: return 0;
            }
        }

        private int quotient(int x, int by) {
            if (by == 0) {
                parted = true;
                return 0;
            }
            return x / by;
        }
    }
}
