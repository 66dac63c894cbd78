import java.util.NoSuchElementException;

/** Grain that shifts in the holds of a rolling ship; ../shared/DOC.md says what each call answers. */
public final class GrainShift {
    public static final int NONE = -1;
    public static final int HIDDEN = -1000000;

    private static final int NO_SORT = -2;
    private static final int STUFF = 0;
    private static final int SHIP = 1;
    private static final int PLAN = 2;
    private static final int RULE = 3;

    private static final int STUFFS_MOST = 6;
    private static final int SHIPS_MOST = 3;
    private static final int PLANS_MOST = 6;
    private static final int RULES_MOST = 4;
    private static final int TOLD_MOST = 6;
    private static final int PAIRS_MOST = 6;
    private static final int LOGS_MOST = 20;
    private static final int CELLS_MOST = 60;
    private static final int TAPE_MOST = 160;

    private static final int ROWS_MOST = 4;
    private static final int ITEMS_MOST = 5;
    private static final int COLUMNS_MOST = 12;
    private static final int SWEEPS_MOST = 12;
    private static final int SLOPE_MOST = 60;
    private static final int ROLL_MOST = 40;
    private static final int SEA_MOST = 30;
    private static final int DAYS_MOST = 9;
    private static final int SEEDS_MOST = 5;
    private static final int BALLAST_MOST = 999;
    private static final int CANS_MOST = 10;
    private static final int WET_MOST = 99;
    private static final int MONEY_MOST = 99999;
    private static final int MILLION = 1000000;
    private static final int BOOK_ROLLS = 8;
    private static final int DEPTH_MOST = 6;
    private static final int END = -1;

    private static final int OUTCOMES = 3;
    private static final int OFTEN_LOST = 0;
    private static final int LEANS = 1;
    private static final int TURNED = 2;

    private static final int REST = 0;
    private static final int SETTLES = 1;
    private static final int WET = 2;
    private static final int LINE = 3;
    private static final int WEIGHT = 4;
    private static final int COLUMNS = 0;
    private static final int HEIGHT = 1;
    private static final int WHICH = 0;
    private static final int UNITS = 1;
    private static final int TRIMMED = 2;
    private static final int BOARD = 3;
    private static final int SACKS = 4;

    // Five items for each sort of text (stuff, ship, plan); a ship has two, and no tape has a sign 0.
    private static final char[] ITEM_LETTERS = {
        'r', 's', 'm', 'l', 'w', 'c', 'h', 0, 0, 0, 'g', 'f', 't', 'b', 'k'};
    private static final int[] ITEM_LOWS = {0, 0, 0, 0, 1, 2, 4, 0, 0, 0, 0, 0, 0, 0, 0};
    private static final int[] ITEM_HIGHS = {20, 30, 30, 999, 9, 12, 40, 0, 0, 0, 5, 480, 1, 40, 3};
    private static final int[] ITEM_USUAL = {6, 0, 0, 500, 2, 8, 20, 0, 0, 0, 0, 0, 0, 0, 0};
    private static final char[] RULE_LETTERS = {'l', 'd', 's', 'w', 'b', 'm'};

    private final Tape tape = new Tape();
    private final ItemReading items = new ItemReading(tape);
    private final RuleReading clauses = new RuleReading(tape);
    private final Told stuffs = new Told(STUFFS_MOST);
    private final Told ships = new Told(SHIPS_MOST);
    private final Told plans = new Told(PLANS_MOST);
    private final Rules ballastRules = new Rules();
    private final Settings settings = new Settings();
    private final Vessel live = new Vessel(settings);
    private final Vessel kept = new Vessel(settings);
    private final Vessel laden = new Vessel(settings);
    private final Vessel trial = new Vessel(settings);
    private final Pairs courses = new Pairs();
    private final Pairs ports = new Pairs();
    private final int[] logs = new int[LOGS_MOST];
    private int logsTold = 0;
    private final Heap cells = new Heap();
    private final int[] rolledLeans = new int[BOOK_ROLLS];
    // How often lost, leans, turned: of the rule followed last, of the best one so far.
    private final int[] outcome = new int[OUTCOMES];
    private final int[] bestOutcome = new int[OUTCOMES];

    public GrainShift() {
    }

    // ---- texts ----

    public int feed(int a, int b, int c, int d, int e) {
        int more = Tape.signsIn(a) + Tape.signsIn(b) + Tape.signsIn(c) + Tape.signsIn(d) + Tape.signsIn(e);
        if (tape.size + more > TAPE_MOST) {
            return NONE;
        }
        tape.putWord(a);
        tape.putWord(b);
        tape.putWord(c);
        tape.putWord(d);
        tape.putWord(e);
        return tape.size;
    }

    public boolean end(int n) {
        if (!within(n, 0, tape.size)) {
            return false;
        }
        tape.size = n;
        return true;
    }

    public int fault(int sort) {
        if (!within(sort, STUFF, RULE)) {
            return NO_SORT;
        }
        return sort == RULE ? clauses.readAll() : items.readAll(sort);
    }

    public int text(int sort) {
        if (!within(sort, STUFF, RULE)) {
            return NONE;
        }
        int wrong = sort == RULE ? clauses.readAll() : items.readAll(sort);
        int number = wrong == NONE ? keepWhatWasRead(sort) : NONE;
        if (number != NONE) {
            tape.size = 0;
        }
        return number;
    }

    private int keepWhatWasRead(int sort) {
        switch (sort) {
            case STUFF:
                return stuffs.keep(items);
            case SHIP:
                return ships.keep(items);
            case PLAN:
                return plans.keep(items);
            default:
                return ballastRules.keep(clauses);
        }
    }

    public int stuff(int stuff, int what) throws NoSuchElementException {
        if (!stuffs.has(stuff) || !within(what, REST, WEIGHT)) {
            throw new NoSuchElementException();
        }
        return stuffs.number(stuff, 0, what);
    }

    public int ship(int ship, int hold, int what) {
        if (!ships.has(ship)) {
            return NONE;
        }
        if (hold == NONE) {
            return what == 0 ? ships.rowsOf(ship) : NONE;
        }
        return within(what, COLUMNS, HEIGHT) ? ships.number(ship, hold, what) : NONE;
    }

    public int plan(int plan, int laying, int what) {
        if (!plans.has(plan)) {
            return NONE;
        }
        if (laying == NONE) {
            return what == 0 ? plans.rowsOf(plan) : NONE;
        }
        return within(what, WHICH, SACKS) ? plans.number(plan, laying, what) : NONE;
    }

    // ---- the ship as she is ----

    public boolean set(int what, int v) {
        if (what == 0 && within(v, 1, 9999)) {
            settings.stiff = v;
            return true;
        }
        if (what == 1 && within(v, -BALLAST_MOST, BALLAST_MOST)) {
            settings.ballast = v;
            return true;
        }
        if (what == 2 && within(v, 1, 60)) {
            settings.limit = v;
            return true;
        }
        return false;
    }

    public boolean load(int ship, int plan, long seed) {
        if (!canLoad(ship, plan)) {
            return false;
        }
        lay(live, ship, plan);
        live.draws = seed;
        return true;
    }

    private boolean canLoad(int ship, int plan) {
        if (!ships.has(ship) || !plans.has(plan) || ships.rowsOf(ship) != plans.rowsOf(plan)) {
            return false;
        }
        for (int k = 0; k < ships.rowsOf(ship); k++) {
            int room = ships.number(ship, k, COLUMNS) * ships.number(ship, k, HEIGHT);
            if (!stuffs.has(plans.number(plan, k, WHICH)) || plans.number(plan, k, UNITS) > room) {
                return false;
            }
        }
        return true;
    }

    private void lay(Vessel vessel, int ship, int plan) {
        vessel.startAnew(ships.rowsOf(ship));
        for (int k = 0; k < vessel.size; k++) {
            Hold h = vessel.holds[k];
            h.shape(ships.number(ship, k, COLUMNS), ships.number(ship, k, HEIGHT));
            h.takeStuff(stuffs, plans.number(plan, k, WHICH));
            h.board = plans.number(plan, k, BOARD);
            h.sacks = plans.number(plan, k, SACKS);
            h.fill(plans.number(plan, k, UNITS), plans.number(plan, k, TRIMMED) == 1);
        }
    }

    public int roll(int a) {
        return isReady() && within(a, 0, ROLL_MOST) ? live.rollBy(a) : NONE;
    }

    public int day(int sea) {
        if (!isReady() || !within(sea, 0, SEA_MOST)) {
            return NONE;
        }
        live.sail(sea, 1);
        return live.days;
    }

    public int column(int hold, int column, int what) {
        if (!live.hasColumn(hold, column)) {
            return NONE;
        }
        Hold h = live.holds[hold];
        return what == 0 ? h.units[column] : what == 1 ? h.tall(column) : NONE;
    }

    public int hold(int hold, int what) {
        if (!live.hasHold(hold)) {
            return HIDDEN;
        }
        Hold h = live.holds[hold];
        switch (what) {
            case 0:
                return h.allUnits();
            case 1:
                return h.moment();
            case 2:
                return h.settled;
            case 3:
                return h.shaken;
            case 4:
                return h.isSoup(h.shaken) ? 1 : 0;
            case 5:
                return h.holdsFast();
            case 6:
                return h.gap();
            default:
                return HIDDEN;
        }
    }

    public int about(int what) {
        if (!live.isLoaded()) {
            return HIDDEN;
        }
        switch (what) {
            case 0:
                return live.lean();
            case 1:
                return live.ticks;
            case 2:
                return live.days;
            case 3:
                return live.lost ? 1 : 0;
            case 4:
                return live.size;
            case 5:
                return live.moments();
            default:
                return HIDDEN;
        }
    }

    // ---- tried, apart from her ----

    public int goes(int a, int what) {
        if (!isReady() || !within(a, 0, ROLL_MOST) || !within(what, 0, 2)) {
            return HIDDEN;
        }
        tryRoll(a);
        return what == 0 ? trial.wentRight() : what == 1 ? trial.wentLeft() : trial.lean();
    }

    private int tryRoll(int a) {
        trial.become(live);
        return trial.rollBy(a);
    }

    public int least() {
        if (!isReady()) {
            return NONE;
        }
        for (int a = 0; a <= ROLL_MOST; a++) {
            if (tryRoll(a) > 0) {
                return a;
            }
        }
        return NONE;
    }

    public int runs(int a, int what) {
        if (!isReady() || !within(a, 0, ROLL_MOST) || !within(what, 0, 2)) {
            return HIDDEN;
        }
        trial.become(live);
        int rolls = 0;
        boolean ended = false;
        while (rolls < 40 && !ended) {
            ended = trial.rollBy(a) == 0 || trial.lost;
            rolls++;
        }
        return what == 0 ? (trial.lost ? 1 : 0) : what == 1 ? rolls : trial.lean();
    }

    public int ballast(int a) {
        if (!isReady() || !within(a, 0, ROLL_MOST)) {
            return HIDDEN;
        }
        int asSet = settings.ballast;
        int best = 0;
        int bestLean = leanWithBallast(0, a);
        for (int b = -BALLAST_MOST; b <= BALLAST_MOST; b += 100) {
            int lean = leanWithBallast(b, a);
            if (lean < bestLean || lean == bestLean && Math.abs(b) < Math.abs(best)) {
                best = b;
                bestLean = lean;
            }
        }
        settings.ballast = asSet;
        return best;
    }

    private int leanWithBallast(int ballast, int a) {
        settings.ballast = ballast;
        trial.become(live);
        for (int k = 0; k < 3 && !trial.lost; k++) {
            trial.rollBy(a);
        }
        return Math.abs(trial.lean());
    }

    public int course(int sea, int days) {
        return within(sea, 0, SEA_MOST) && within(days, 1, DAYS_MOST) ? courses.keep(sea, days) : NONE;
    }

    public int best(int what) {
        if (!isReady() || !within(what, 0, 1)) {
            return HIDDEN;
        }
        int best = NONE;
        int bestLean = 0;
        for (int k = 0; k < courses.size; k++) {
            trial.become(live);
            trial.sail(courses.first[k], courses.second[k]);
            int lean = trial.lean();
            if (!trial.lost && (best == NONE || Math.abs(lean) < Math.abs(bestLean))) {
                best = k;
                bestLean = lean;
            }
        }
        if (best == NONE) {
            return HIDDEN;
        }
        return what == 0 ? best : bestLean;
    }

    // ---- voyages of plans ----

    public int cost(int ship, int plan) {
        if (!ships.has(ship) || !plans.has(plan) || ships.rowsOf(ship) != plans.rowsOf(plan)) {
            return NONE;
        }
        int sum = 0;
        for (int k = 0; k < ships.rowsOf(ship); k++) {
            sum += fittingCost(ship, k, plans.number(plan, k, BOARD), plans.number(plan, k, SACKS));
            sum += plans.number(plan, k, TRIMMED) * plans.number(plan, k, UNITS);
        }
        return sum;
    }

    private int fittingCost(int ship, int hold, int board, int sacks) {
        return 3 * board + 20 * ships.number(ship, hold, COLUMNS) * sacks;
    }

    public int safe(int ship, int plan, int sea, int days, int n) {
        if (!canLoad(ship, plan) || !isVoyage(sea, days, n)) {
            return NONE;
        }
        lay(laden, ship, plan);
        return n - lostOf(sea, days, n, n);
    }

    private static boolean isVoyage(int sea, int days, int n) {
        return within(sea, 0, SEA_MOST) && within(days, 1, DAYS_MOST) && within(n, 1, SEEDS_MOST);
    }

    /** How often the laden ship is lost; once that is above bound, the seeds left over can't matter. */
    private int lostOf(int sea, int days, int n, int bound) {
        int lost = 0;
        for (int seed = 0; seed < n && lost <= bound; seed++) {
            trial.become(laden);
            trial.draws = seed;
            trial.sail(sea, days);
            lost += trial.lost ? 1 : 0;
        }
        return lost;
    }

    public int cheapest(int ship, int sea, int days, int n, int lost) {
        if (!ships.has(ship) || !isVoyage(sea, days, n) || !within(lost, 0, SEEDS_MOST)) {
            return NONE;
        }
        int best = NONE;
        int bestCost = 0;
        for (int plan = 0; plan < plans.size; plan++) {
            int price = canLoad(ship, plan) ? cost(ship, plan) : NONE;
            if (price == NONE || best != NONE && price >= bestCost) {
                continue;
            }
            lay(laden, ship, plan);
            if (lostOf(sea, days, n, lost) <= lost) {
                best = plan;
                bestCost = price;
            }
        }
        return best;
    }

    public int fitted(int ship, int plan, int hold, int sea, int days, int n, int what) {
        if (!canLoad(ship, plan) || !within(hold, 0, ships.rowsOf(ship) - 1)
                || !isVoyage(sea, days, n) || !within(what, 0, 1)) {
            return NONE;
        }
        lay(laden, ship, plan);
        Hold h = laden.holds[hold];
        int bare = cost(ship, plan) - fittingCost(ship, hold, h.board, h.sacks);
        int best = NONE;
        int bestCost = 0;
        for (int sacks = 0; sacks <= 3; sacks++) {
            for (int board = 0; board <= 40; board += 5) {
                int price = bare + fittingCost(ship, hold, board, sacks);
                if (best != NONE && price >= bestCost) {
                    continue;
                }
                h.board = board;
                h.sacks = sacks;
                h.fill(plans.number(plan, hold, UNITS), plans.number(plan, hold, TRIMMED) == 1);
                if (lostOf(sea, days, n, 0) == 0) {
                    best = 41 * sacks + board;
                    bestCost = price;
                }
            }
        }
        return what == 0 || best == NONE ? best : bestCost;
    }

    public int log(int lean) {
        if (!within(lean, -60, 60) || logsTold >= LOGS_MOST) {
            return NONE;
        }
        logs[logsTold] = lean;
        logsTold++;
        return logsTold;
    }

    public int agree(int ship, int a, int by) {
        if (!ships.has(ship) || !within(a, 0, ROLL_MOST) || !within(by, 0, 60)) {
            return NONE;
        }
        int bits = 0;
        for (int plan = 0; plan < plans.size; plan++) {
            if (canLoad(ship, plan) && agreesWithLogs(ship, plan, a, by)) {
                bits |= 1 << plan;
            }
        }
        return bits;
    }

    private boolean agreesWithLogs(int ship, int plan, int a, int by) {
        lay(trial, ship, plan);
        for (int k = 0; k < logsTold; k++) {
            if (!trial.lost) {
                trial.rollBy(a);
            }
            if (Math.abs(trial.lean() - logs[k]) > by) {
                return false;
            }
        }
        return true;
    }

    // ---- the heap ----

    public int heap(int wet) {
        return within(wet, 0, WET_MOST) ? cells.keep(wet) : NONE;
    }

    public int miss(int cans, int bound) {
        return cells.missParts(cans, bound);
    }

    public int enough(int bound, int parts) {
        if (!within(bound, 0, WET_MOST) || !within(parts, 0, MILLION)) {
            return NONE;
        }
        for (int cans = 1; cans <= CANS_MOST && cans <= cells.size; cans++) {
            if (cells.missParts(cans, bound) <= parts) {
                return cans;
            }
        }
        return NONE;
    }

    public int refuse(int cans, int bound, int losing, int refusing) {
        int parts = cells.missParts(cans, bound);
        if (parts == NONE || !within(losing, 0, MONEY_MOST) || !within(refusing, 0, MONEY_MOST)) {
            return NONE;
        }
        boolean anyAbove = cells.noneAbove(bound) < cells.size;
        return anyAbove && (long) parts * losing > (long) refusing * MILLION ? 1 : 0;
    }

    // ---- images ----

    public int image() {
        if (!live.isLoaded()) {
            return NONE;
        }
        kept.become(live);
        return kept.ticks;
    }

    public int back() {
        if (!kept.isLoaded()) {
            return NONE;
        }
        live.become(kept);
        return live.ticks;
    }

    // ---- hands at the grain ----

    public int trim(int hold, int times) {
        if (!isReady() || !live.hasHold(hold) || !within(times, 1, 99)) {
            return NONE;
        }
        int done = 0;
        while (done < times && live.holds[hold].evenOut()) {
            done++;
        }
        return done;
    }

    public int pour(int hold, int column, int units) {
        if (!isReady() || !live.hasColumn(hold, column) || !within(units, 1, 99)) {
            return NONE;
        }
        Hold h = live.holds[hold];
        int came = 0;
        while (came < units && h.units[column] < h.unitsMost()) {
            h.units[column]++;
            came++;
            h.restWith(heldSlope(live.lean()));
        }
        return came;
    }

    public int take(int hold, int column, int units) {
        if (!isReady() || !live.hasColumn(hold, column) || !within(units, 1, 99)) {
            return NONE;
        }
        Hold h = live.holds[hold];
        int taken = Math.min(units, h.units[column]);
        h.units[column] -= taken;
        h.restWith(heldSlope(live.lean()));
        return taken;
    }

    public int heel(int a) {
        return isReady() && within(a, -40, 40) ? live.heelBy(a) : NONE;
    }

    public int tilt(int stuff, int columns, int units) {
        if (!stuffs.has(stuff) || !within(columns, 2, COLUMNS_MOST) || !within(units, 1, 40)) {
            return NONE;
        }
        Hold box = trial.holds[0];
        box.shape(columns, 40);
        box.takeStuff(stuffs, stuff);
        box.board = 0;
        box.sacks = 0;
        for (int slope = 0; slope <= SLOPE_MOST; slope++) {
            box.fill(columns * units, true);
            box.restWith(slope);
            if (box.right + box.left > 0) {
                return slope;
            }
        }
        return NONE;
    }

    public int ripens(int hold, int a) {
        if (!isReady() || !live.hasHold(hold) || !within(a, 1, ROLL_MOST)) {
            return NONE;
        }
        Hold h = live.holds[hold];
        for (int rolls = 0; rolls <= 999; rolls++) {
            if (h.isSoup(h.shaken + rolls * a)) {
                return rolls;
            }
        }
        return NONE;
    }

    public int slide(int hold, int a) {
        if (!isReady() || !live.hasHold(hold) || !within(a, 0, ROLL_MOST)) {
            return NONE;
        }
        tryRoll(a);
        int bits = 0;
        for (int i = 0; i < live.holds[hold].columns; i++) {
            if (trial.holds[hold].units[i] < live.holds[hold].units[i]) {
                bits |= 1 << i;
            }
        }
        return bits;
    }

    // ---- ports, seeds, the book ----

    public int port(int days, int worth) {
        return within(days, 1, DAYS_MOST) && within(worth, 0, 9999) ? ports.keep(days, worth) : NONE;
    }

    public int reach(int sea, int what) {
        if (!isReady() || !within(sea, 0, SEA_MOST) || !within(what, 0, 1)) {
            return HIDDEN;
        }
        int bits = portsReached(sea);
        return what == 0 ? bits : worthiestOf(bits);
    }

    private int portsReached(int sea) {
        int bits = 0;
        trial.become(live);
        for (int day = 1; day <= DAYS_MOST; day++) {
            trial.sail(sea, 1);
            for (int k = 0; k < ports.size; k++) {
                if (!trial.lost && ports.first[k] == day) {
                    bits |= 1 << k;
                }
            }
        }
        return bits;
    }

    private int worthiestOf(int bits) {
        int best = NONE;
        int most = NONE;
        for (int k = 0; k < ports.size; k++) {
            if ((bits >> k & 1) == 1 && ports.second[k] > most) {
                best = k;
                most = ports.second[k];
            }
        }
        return best;
    }

    public int over(int sea, int days, int n, int what) {
        if (!isReady() || !within(sea, 0, SEA_MOST) || !within(days, 1, DAYS_MOST)
                || !within(n, 1, 20) || !within(what, 0, 2)) {
            return HIDDEN;
        }
        int lost = 0;
        int sum = 0;
        int greatest = 0;
        for (int seed = 0; seed < n; seed++) {
            trial.become(live);
            trial.draws = seed;
            trial.sail(sea, days);
            int lean = trial.lean();
            lost += trial.lost ? 1 : 0;
            sum += lean;
            greatest = Math.max(greatest, Math.abs(lean));
        }
        return what == 0 ? lost : what == 1 ? sum : greatest;
    }

    public int soonest(int sea) {
        if (!isReady() || !within(sea, 0, SEA_MOST)) {
            return NONE;
        }
        trial.become(live);
        for (int day = 1; day <= 30; day++) {
            trial.sail(sea, 1);
            if (trial.lost) {
                return day;
            }
        }
        return NONE;
    }

    public int book(int times) {
        if (!isReady() || !within(times, NONE, 99)) {
            return NONE;
        }
        for (int k = 0; k < BOOK_ROLLS; k++) {
            tryRoll(5 * (k + 1));
            rolledLeans[k] = trial.lean();
        }
        return times == NONE ? bestTimes() : bookIsOff(times);
    }

    private int bookIsOff(int times) {
        int now = live.lean();
        int off = 0;
        for (int k = 0; k < BOOK_ROLLS; k++) {
            int more = times * 5 * (k + 1) / 10;
            int said = now < 0 ? now - more : now + more;
            off += Math.abs(said - rolledLeans[k]);
        }
        return off;
    }

    private int bestTimes() {
        int best = 0;
        int least = bookIsOff(0);
        for (int times = 1; times <= 99; times++) {
            int off = bookIsOff(times);
            if (off < least) {
                best = times;
                least = off;
            }
        }
        return best;
    }

    // ---- rules ----

    public int follow(int rule, int sea, int days, int n, int what) {
        if (!isReady() || !within(rule, 0, ballastRules.told - 1) || !isVoyage(sea, days, n)
                || !within(what, OFTEN_LOST, TURNED)) {
            return HIDDEN;
        }
        followRule(rule, sea, days, n);
        return outcome[what];
    }

    private void followRule(int rule, int sea, int days, int n) {
        int asSet = settings.ballast;
        for (int k = 0; k < OUTCOMES; k++) {
            outcome[k] = 0;
        }
        for (int seed = 0; seed < n; seed++) {
            settings.ballast = asSet;
            trial.become(live);
            trial.draws = seed;
            for (int day = 0; day < days && !trial.lost; day++) {
                turnBallast(rule, sea);
                trial.sail(sea, 1);
            }
            outcome[OFTEN_LOST] += trial.lost ? 1 : 0;
            outcome[LEANS] += Math.abs(trial.lean());
        }
        settings.ballast = asSet;
    }

    private void turnBallast(int rule, int sea) {
        int[] letters = ballastRules.letters;
        letters[0] = trial.lean();
        letters[1] = trial.days;
        letters[2] = trial.mostShaken();
        letters[3] = sea;
        letters[4] = settings.ballast;
        letters[5] = trial.moments() / 100;
        int next = held(ballastRules.worth(rule), BALLAST_MOST);
        outcome[TURNED] += Math.abs(next - settings.ballast);
        settings.ballast = next;
    }

    public int better(int sea, int days, int n) {
        if (!isReady() || !isVoyage(sea, days, n)) {
            return NONE;
        }
        int best = NONE;
        for (int rule = 0; rule < ballastRules.told; rule++) {
            followRule(rule, sea, days, n);
            if (best == NONE || isBestOutcome()) {
                best = rule;
                for (int k = 0; k < OUTCOMES; k++) {
                    bestOutcome[k] = outcome[k];
                }
            }
        }
        return best;
    }

    private boolean isBestOutcome() {
        for (int k = 0; k < OUTCOMES; k++) {
            if (outcome[k] != bestOutcome[k]) {
                return outcome[k] < bestOutcome[k];
            }
        }
        return false;
    }

    public int rules() {
        return ballastRules.told;
    }

    public int count(int what) {
        switch (what) {
            case 0:
                return stuffs.size;
            case 1:
                return ships.size;
            case 2:
                return plans.size;
            case 3:
                return tape.size;
            case 4:
                return settings.stiff;
            case 5:
                return settings.ballast;
            case 6:
                return settings.limit;
            case 7:
                return courses.size;
            case 8:
                return logsTold;
            case 9:
                return cells.size;
            default:
                return HIDDEN;
        }
    }

    // ---- helpers ----

    private boolean isReady() {
        return live.isLoaded() && !live.lost;
    }

    private static boolean within(int v, int low, int high) {
        return v >= low && v <= high;
    }

    private static int held(int v, int most) {
        return v > most ? most : v < -most ? -most : v;
    }

    private static int heldSlope(int slope) {
        return held(slope, SLOPE_MOST);
    }

    private static final class Settings {
        int stiff = 400;
        int ballast = 0;
        int limit = 25;
    }

    /** Courses (sea, days) or ports (days, worth) in the order told. */
    private static final class Pairs {
        final int[] first = new int[PAIRS_MOST];
        final int[] second = new int[PAIRS_MOST];
        int size;

        int keep(int one, int other) {
            if (size >= PAIRS_MOST) {
                return NONE;
            }
            first[size] = one;
            second[size] = other;
            size++;
            return size - 1;
        }
    }

    private static final class Heap {
        final int[] wets = new int[CELLS_MOST];
        int size;

        int keep(int wet) {
            if (size >= CELLS_MOST) {
                return NONE;
            }
            wets[size] = wet;
            size++;
            return size;
        }

        int noneAbove(int bound) {
            int n = 0;
            for (int k = 0; k < size; k++) {
                n += wets[k] <= bound ? 1 : 0;
            }
            return n;
        }

        /** By choices, not by factors: 10 of 60 times a million is still far within a long. */
        int missParts(int cans, int bound) {
            if (!within(cans, 1, CANS_MOST) || cans > size || !within(bound, 0, WET_MOST)) {
                return NONE;
            }
            long all = choices(size, cans);
            return all <= 0 ? NONE : (int) (choices(noneAbove(bound), cans) * MILLION / all);
        }

        private static long choices(int of, int taken) {
            long ways = 1;
            for (int k = 0; k < taken; k++) {
                ways = ways * (of - k) / (k + 1);
            }
            return ways;
        }
    }

    private static final class Tape {
        final int[] signs = new int[TAPE_MOST];
        int size;

        static int signsIn(int word) {
            int n = 0;
            for (int shift = 24; shift >= 0; shift -= 8) {
                n += (word >>> shift & 255) != 0 ? 1 : 0;
            }
            return n;
        }

        void putWord(int word) {
            for (int shift = 24; shift >= 0; shift -= 8) {
                int sign = word >>> shift & 255;
                if (sign != 0 && size < TAPE_MOST) {
                    signs[size] = sign;
                    size++;
                }
            }
        }

        int signAt(int where) {
            return where >= 0 && where < size ? signs[where] : END;
        }
    }

    /** Stuffs, ships or plans as numbers: entries of rows (holds, layings) of items. */
    private static final class Told {
        private final int most;
        private final int[] rows = new int[TOLD_MOST];
        private final int[] numbers = new int[TOLD_MOST * ROWS_MOST * ITEMS_MOST];
        int size;

        Told(int most) {
            this.most = most < TOLD_MOST ? most : TOLD_MOST;
        }

        boolean has(int entry) {
            return entry >= 0 && entry < size;
        }

        int rowsOf(int entry) {
            return has(entry) ? rows[entry] : 0;
        }

        int number(int entry, int row, int item) {
            if (!has(entry) || row < 0 || row >= rows[entry] || !within(item, 0, ITEMS_MOST - 1)) {
                return NONE;
            }
            return numbers[(entry * ROWS_MOST + row) * ITEMS_MOST + item];
        }

        int keep(ItemReading reading) {
            if (size >= most) {
                return NONE;
            }
            rows[size] = reading.rows;
            for (int k = 0; k < ROWS_MOST * ITEMS_MOST; k++) {
                numbers[size * ROWS_MOST * ITEMS_MOST + k] = reading.numbers[k];
            }
            size++;
            return size - 1;
        }
    }

    /** Reads the tape sign by sign; once a fault is found, nothing more is accepted. */
    private abstract static class Reading {
        private final Tape tape;
        int at;
        int wrong;

        Reading(Tape tape) {
            this.tape = tape;
        }

        final void begin() {
            at = 0;
            wrong = NONE;
        }

        /** The next sign that is no blank. */
        final int next() {
            while (at < TAPE_MOST && tape.signAt(at) == ' ') {
                at++;
            }
            return tape.signAt(at);
        }

        final boolean isSound() {
            return wrong == NONE;
        }

        final void failAt(int where) {
            if (wrong == NONE) {
                wrong = where;
            }
        }

        final boolean accept(int sign) {
            if (wrong != NONE || next() != sign) {
                return false;
            }
            at++;
            return true;
        }

        final void expect(int sign) {
            if (!accept(sign)) {
                failAt(at);
            }
        }

        final int digits(int most) {
            int value = 0;
            int got = 0;
            next();
            while (got <= most && within(tape.signAt(at), '0', '9')) {
                if (got == most) {
                    failAt(at);
                    return value;
                }
                value = value * 10 + tape.signAt(at) - '0';
                got++;
                at++;
            }
            if (got == 0) {
                failAt(at);
            }
            return value;
        }

        final int finish() {
            if (next() != END) {
                failAt(at);
            }
            return wrong;
        }
    }

    /** Reads stuffs, ships and plans. */
    private static final class ItemReading extends Reading {
        final int[] numbers = new int[ROWS_MOST * ITEMS_MOST];
        int rows;
        private int sort;

        ItemReading(Tape tape) {
            super(tape);
        }

        int readAll(int whichSort) {
            begin();
            sort = within(whichSort, STUFF, PLAN) ? whichSort : STUFF;
            rows = 0;
            int most = sort == STUFF ? 1 : ROWS_MOST;
            boolean more = true;
            while (more && rows < most) {
                readRow(rows);
                rows++;
                more = rows < most && accept(';');
            }
            return finish();
        }

        private void readRow(int row) {
            for (int item = 0; item < ITEMS_MOST; item++) {
                numbers[row * ITEMS_MOST + item] = ITEM_USUAL[sort * ITEMS_MOST + item];
            }
            int seen = 0;
            boolean more = true;
            for (int k = 0; k <= ITEMS_MOST && more; k++) {
                int item = itemOf(next());
                if (item == NONE || (seen >> item & 1) == 1) {
                    failAt(at);
                    return;
                }
                seen |= 1 << item;
                at++;
                readNumber(row, item);
                more = accept(',');
            }
        }

        private int itemOf(int sign) {
            for (int item = 0; item < ITEMS_MOST; item++) {
                if (sign != 0 && ITEM_LETTERS[sort * ITEMS_MOST + item] == sign) {
                    return item;
                }
            }
            return NONE;
        }

        private void readNumber(int row, int item) {
            int value = digits(3);
            if (isSound() && !within(value, ITEM_LOWS[sort * ITEMS_MOST + item],
                    ITEM_HIGHS[sort * ITEMS_MOST + item])) {
                failAt(at - 1);
            }
            numbers[row * ITEMS_MOST + item] = value;
        }
    }

    /**
     * Reads rules into code with operands first: a number stands as itself, any sign as minus itself,
     * '?' behind a condition and 'y' behind a whole clause. No sign gives more than one code.
     */
    private static final class RuleReading extends Reading {
        final int[] code = new int[TAPE_MOST];
        int size;

        RuleReading(Tape tape) {
            super(tape);
        }

        int readAll() {
            begin();
            size = 0;
            boolean more = true;
            for (int k = 0; k < TAPE_MOST && more; k++) {
                readClause();
                more = accept(';');
            }
            return finish();
        }

        private void put(int c) {
            if (size < TAPE_MOST) {
                code[size] = c;
                size++;
            }
        }

        private void readClause() {
            expect('y');
            expect(':');
            int sign = next();
            if (sign == '!' || sign == '(') {
                readUnit(0);
                readConditionOn(0);
            } else {
                readSum(0);
                if (!isComparison(next())) {
                    put(-'y');
                    return;
                }
                readComparison(0);
                readConditionOn(0);
            }
            expect('?');
            put(-'?');
            readSum(0);
            put(-'y');
        }

        /** What may follow the first unit of a condition. */
        private void readConditionOn(int depth) {
            readTruthOn(depth);
            for (int k = 0; k < TAPE_MOST && accept('|'); k++) {
                readUnit(depth);
                readTruthOn(depth);
                put(-'|');
            }
        }

        private void readTruthOn(int depth) {
            for (int k = 0; k < TAPE_MOST && accept('&'); k++) {
                readUnit(depth);
                put(-'&');
            }
        }

        private void readUnit(int depth) {
            int sign = next();
            if (sign == '!') {
                if (goesDeeper(depth)) {
                    readUnit(depth + 1);
                    put(-'!');
                }
            } else if (sign == '(') {
                if (goesDeeper(depth)) {
                    readUnit(depth + 1);
                    readConditionOn(depth + 1);
                    expect(')');
                }
            } else {
                readSum(depth);
                readComparison(depth);
            }
        }

        private boolean goesDeeper(int depth) {
            if (!isSound() || depth >= DEPTH_MOST) {
                failAt(at);
                return false;
            }
            at++;
            return true;
        }

        private static boolean isComparison(int sign) {
            return sign == '=' || sign == '<' || sign == '>';
        }

        private void readComparison(int depth) {
            int sign = next();
            if (!isSound() || !isComparison(sign)) {
                failAt(at);
                return;
            }
            at++;
            readSum(depth);
            put(-sign);
        }

        private void readSum(int depth) {
            readTerm(depth);
            for (int k = 0; k < TAPE_MOST && isSound() && (next() == '+' || next() == '-'); k++) {
                int sign = next();
                at++;
                readTerm(depth);
                put(-sign);
            }
        }

        private void readTerm(int depth) {
            readAtom(depth);
            for (int k = 0; k < TAPE_MOST && isSound() && (next() == '*' || next() == '/'); k++) {
                int sign = next();
                at++;
                readAtom(depth);
                put(-sign);
            }
        }

        private void readAtom(int depth) {
            int sign = next();
            if (within(sign, '0', '9')) {
                put(digits(4));
            } else if (Rules.letterOf(sign) != NONE) {
                at++;
                put(-sign);
            } else if (sign == '[') {
                if (goesDeeper(depth)) {
                    readSum(depth + 1);
                    expect(']');
                }
            } else {
                failAt(at);
            }
        }
    }

    /** The rules told, as the code that RuleReading makes. */
    private static final class Rules {
        final int[] letters = new int[RULE_LETTERS.length];
        int told;
        private final int[][] codes = new int[RULES_MOST][TAPE_MOST];
        private final int[] sizes = new int[RULES_MOST];
        private final int[] stack = new int[TAPE_MOST];
        private int top;

        static int letterOf(int sign) {
            for (int k = 0; k < RULE_LETTERS.length; k++) {
                if (RULE_LETTERS[k] == sign) {
                    return k;
                }
            }
            return NONE;
        }

        int keep(RuleReading reading) {
            if (told >= RULES_MOST) {
                return NONE;
            }
            for (int k = 0; k < reading.size; k++) {
                codes[told][k] = reading.code[k];
            }
            sizes[told] = reading.size;
            told++;
            return told - 1;
        }

        int worth(int rule) {
            if (!within(rule, 0, told - 1)) {
                return 0;
            }
            top = 0;
            boolean applies = true;
            for (int k = 0; k < sizes[rule]; k++) {
                int c = codes[rule][k];
                if (c == -'?') {
                    applies = pop() != 0;
                } else if (c == -'y') {
                    int sum = pop();
                    if (applies) {
                        return sum;
                    }
                    applies = true;
                } else {
                    step(c);
                }
            }
            return 0;
        }

        private void step(int c) {
            int letter = letterOf(-c);
            if (c >= 0) {
                push(c);
            } else if (letter != NONE) {
                push(letters[letter]);
            } else if (c == -'!') {
                push(pop() == 0 ? 1 : 0);
            } else {
                int right = pop();
                int left = pop();
                push(joined(-c, left, right));
            }
        }

        private void push(int v) {
            if (top < TAPE_MOST) {
                stack[top] = v;
                top++;
            }
        }

        private int pop() {
            if (top <= 0) {
                return 0;
            }
            top--;
            return stack[top];
        }

        private static int joined(int sign, int left, int right) {
            switch (sign) {
                case '+':
                    return held(left + right, MILLION);
                case '-':
                    return held(left - right, MILLION);
                case '*':
                    long product = (long) left * right;
                    return product > MILLION ? MILLION : product < -MILLION ? -MILLION : (int) product;
                case '/':
                    return right == 0 ? 0 : left / right;
                case '=':
                    return left == right ? 1 : 0;
                case '<':
                    return left < right ? 1 : 0;
                case '>':
                    return left > right ? 1 : 0;
                case '&':
                    return left & right;
                default:
                    return left | right;
            }
        }
    }

    private static final class Hold {
        final int[] units = new int[COLUMNS_MOST];
        int columns;
        int board;
        int sacks;
        int settled;
        int shaken;
        // What went to greater and to lesser numbers since the counts were cleared.
        int right;
        int left;
        private int height;
        private int rest;
        private int settles;
        private int wet;
        private int line;
        private int weight;

        void shape(int columnsOfIt, int heightOfIt) {
            columns = columnsOfIt < COLUMNS_MOST ? columnsOfIt : COLUMNS_MOST;
            height = heightOfIt;
        }

        void takeStuff(Told stuffs, int stuff) {
            rest = stuffs.number(stuff, 0, REST);
            settles = stuffs.number(stuff, 0, SETTLES);
            wet = stuffs.number(stuff, 0, WET);
            line = stuffs.number(stuff, 0, LINE);
            weight = stuffs.number(stuff, 0, WEIGHT);
        }

        void become(Hold other) {
            for (int i = 0; i < COLUMNS_MOST; i++) {
                units[i] = other.units[i];
            }
            columns = other.columns;
            height = other.height;
            board = other.board;
            sacks = other.sacks;
            settled = other.settled;
            shaken = other.shaken;
            rest = other.rest;
            settles = other.settles;
            wet = other.wet;
            line = other.line;
            weight = other.weight;
            clearCounts();
        }

        void clearCounts() {
            right = 0;
            left = 0;
        }

        void fill(int amount, boolean trimmed) {
            for (int i = 0; i < COLUMNS_MOST; i++) {
                units[i] = 0;
            }
            settled = 0;
            shaken = 0;
            if (columns > 0) {
                if (trimmed) {
                    layEvenly(amount);
                } else {
                    pourOntoMiddle(amount);
                }
            }
            clearCounts();
        }

        private void layEvenly(int amount) {
            for (int i = 0; i < columns; i++) {
                units[i] = amount / columns + (i < amount % columns ? 1 : 0);
            }
        }

        private void pourOntoMiddle(int amount) {
            for (int k = 0; k < amount; k++) {
                int onto = nearestNotFull(k % 2 == 0 ? (columns - 1) / 2 : columns / 2);
                if (onto == NONE) {
                    return;
                }
                units[onto]++;
                restWith(0);
            }
        }

        private int nearestNotFull(int middle) {
            for (int away = 0; away < columns; away++) {
                int lower = middle - away;
                int upper = middle + away;
                if (lower >= 0 && units[lower] < height) {
                    return lower;
                }
                if (upper < columns && units[upper] < height) {
                    return upper;
                }
            }
            return NONE;
        }

        int tall(int i) {
            return within(i, 0, columns - 1) ? units[i] * (100 - settled) / 10 : 0;
        }

        /** As tall is cut, a column may hold a little more than its height would say. */
        int unitsMost() {
            int share = 100 - settled;
            return share > 0 ? (100 * height + 9) / share : 0;
        }

        int gap() {
            int tallest = 0;
            for (int i = 0; i < columns; i++) {
                tallest = Math.max(tallest, tall(i));
            }
            return 10 * height - tallest;
        }

        int allUnits() {
            int sum = 0;
            for (int i = 0; i < columns; i++) {
                sum += units[i];
            }
            return sum;
        }

        int moment() {
            int sum = 0;
            for (int i = 0; i < columns; i++) {
                sum += units[i] * (2 * i + 1 - columns);
            }
            return sum * weight;
        }

        boolean isSoup(int shakenThen) {
            return shakenThen * wet > line;
        }

        int holdsFast() {
            return isSoup(shaken) ? 0 : 10 * (rest + 3 * sacks);
        }

        void settleOneDay() {
            if (settled < settles) {
                settled++;
            }
        }

        void restWith(int slope) {
            int fast = holdsFast();
            int most = unitsMost();
            boolean any = true;
            for (int k = 0; k < SWEEPS_MOST && any; k++) {
                any = sweep(10 * slope, fast, most);
            }
        }

        private boolean sweep(int slope, int fast, int most) {
            boolean any = false;
            int share = 100 - settled;
            int boarded = board > 0 && columns % 2 == 0 ? columns / 2 - 1 : NONE;
            for (int i = 0; i + 1 < columns; i++) {
                int d = units[i] * share / 10 - units[i + 1] * share / 10 + slope;
                int n = ((d < 0 ? -d : d) - fast) / 20;
                if (n <= 0) {
                    continue;
                }
                int from = d > 0 ? i : i + 1;
                int to = d > 0 ? i + 1 : i;
                n = Math.min(n, i == boarded ? units[from] - board : units[from]);
                n = Math.min(n, most - units[to]);
                if (n <= 0) {
                    continue;
                }
                units[from] -= n;
                units[to] += n;
                right += d > 0 ? n : 0;
                left += d > 0 ? 0 : n;
                any = true;
            }
            return any;
        }

        boolean evenOut() {
            int most = 0;
            int fewest = 0;
            for (int i = 1; i < columns; i++) {
                most = units[i] > units[most] ? i : most;
                fewest = units[i] < units[fewest] ? i : fewest;
            }
            if (units[most] - units[fewest] < 2) {
                return false;
            }
            units[most]--;
            units[fewest]++;
            return true;
        }
    }

    /** A ship with what lies in her; of size 0 until she is loaded. */
    private static final class Vessel {
        final Hold[] holds = {new Hold(), new Hold(), new Hold(), new Hold()};
        int size;
        int ticks;
        int days;
        boolean lost;
        long draws;
        private final Settings settings;

        Vessel(Settings settings) {
            this.settings = settings;
        }

        boolean isLoaded() {
            return size > 0;
        }

        boolean hasHold(int hold) {
            return hold >= 0 && hold < size;
        }

        boolean hasColumn(int hold, int column) {
            return hasHold(hold) && column >= 0 && column < holds[hold].columns;
        }

        void startAnew(int holdsOfHer) {
            size = holdsOfHer < ROWS_MOST ? holdsOfHer : ROWS_MOST;
            ticks = 0;
            days = 0;
            lost = false;
            draws = 0;
        }

        void become(Vessel other) {
            size = other.size;
            ticks = other.ticks;
            days = other.days;
            lost = other.lost;
            draws = other.draws;
            for (int k = 0; k < size; k++) {
                holds[k].become(other.holds[k]);
            }
        }

        int moments() {
            int sum = 0;
            for (int k = 0; k < size; k++) {
                sum += holds[k].moment();
            }
            return sum;
        }

        int lean() {
            int stiff = settings.stiff;
            return stiff > 0 ? (moments() + 10 * settings.ballast) / stiff : 0;
        }

        int mostShaken() {
            int most = 0;
            for (int k = 0; k < size; k++) {
                most = Math.max(most, holds[k].shaken);
            }
            return most;
        }

        int wentRight() {
            int sum = 0;
            for (int k = 0; k < size; k++) {
                sum += holds[k].right;
            }
            return sum;
        }

        int wentLeft() {
            int sum = 0;
            for (int k = 0; k < size; k++) {
                sum += holds[k].left;
            }
            return sum;
        }

        int rollBy(int a) {
            for (int k = 0; k < size; k++) {
                holds[k].clearCounts();
                holds[k].shaken += a;
            }
            ticks++;
            restAll(lean() + a);
            restAll(lean() - a);
            lost = isTooFar();
            return wentRight() + wentLeft();
        }

        int heelBy(int a) {
            for (int k = 0; k < size; k++) {
                holds[k].clearCounts();
            }
            restAll(lean() + a);
            lost = isTooFar();
            return wentRight() + wentLeft();
        }

        private void restAll(int slope) {
            int within60 = heldSlope(slope);
            for (int k = 0; k < size; k++) {
                holds[k].restWith(within60);
            }
        }

        private boolean isTooFar() {
            return Math.abs(lean()) >= settings.limit;
        }

        private int drawOfSix() {
            draws = draws * 6364136223846793005L + 1442695040888963407L;
            return (int) ((draws >>> 33) % 6);
        }

        /** Days one behind the other, till she is lost. */
        void sail(int sea, int daysAtSea) {
            for (int day = 0; day < daysAtSea && !lost; day++) {
                for (int k = 0; k < size; k++) {
                    holds[k].settleOneDay();
                }
                for (int rolls = 0; rolls < 4 && !lost; rolls++) {
                    rollBy(sea + drawOfSix());
                }
                days++;
            }
        }
    }
}
