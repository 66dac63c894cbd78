import java.math.BigInteger;
import java.util.ArrayList;
import java.util.Arrays;
import java.util.List;
import java.util.NoSuchElementException;
import java.util.TreeSet;

/**
 * The document once more, as slowly and literally as may be, with the whole library: ModelTest holds the
 * class against it. It shares no code with the class and is built another way where there is one.
 */
final class Model {
    static final int NONE = -1;
    static final int HIDDEN = -1000000;

    /** One hold as it lies. */
    static final class Bin {
        int height, board, sacks, settled, shaken;
        int[] stuff;
        int[] units;

        Bin copy() {
            Bin b = new Bin();
            b.height = height;
            b.board = board;
            b.sacks = sacks;
            b.settled = settled;
            b.shaken = shaken;
            b.stuff = stuff;
            b.units = units.clone();
            return b;
        }

        int tall(int i) {
            return tallOf(units[i]);
        }

        int tallOf(int n) {
            return n * (100 - settled) / 10;
        }

        boolean soup() {
            return shaken * stuff[2] > stuff[3];
        }

        int fast() {
            return soup() ? 0 : 10 * (stuff[0] + 3 * sacks);
        }

        int moment() {
            int m = 0;
            for (int i = 0; i < units.length; i++) {
                m += units[i] * stuff[4] * (2 * i + 1 - units.length);
            }
            return m;
        }

        /** One by one, each asked anew whether it may go. */
        int pass(int from, int to, int wanted) {
            boolean middle = units.length % 2 == 0 && board > 0
                    && Math.min(from, to) == units.length / 2 - 1;
            int n = 0;
            while (n < wanted && units[from] > 0 && (!middle || units[from] > board)
                    && tallOf(units[to] + 1) <= 10 * height) {
                units[from]--;
                units[to]++;
                n++;
            }
            return n;
        }

        /** {to greater numbers, to lesser ones}. */
        int[] rest(int slope) {
            slope = Math.max(-60, Math.min(60, slope));
            int[] went = new int[2];
            for (int sweep = 1; sweep <= 12; sweep++) {
                int now = 0;
                for (int i = 0; i < units.length - 1; i++) {
                    int d = tall(i) - tall(i + 1) + 10 * slope;
                    if (d > fast()) {
                        int n = pass(i, i + 1, (d - fast()) / 20);
                        went[0] += n;
                        now += n;
                    } else if (d < 0 - fast()) {
                        int n = pass(i + 1, i, (0 - d - fast()) / 20);
                        went[1] += n;
                        now += n;
                    }
                }
                if (now == 0) {
                    break;
                }
            }
            return went;
        }
    }

    /** The ship as she is. */
    final class Her {
        List<Bin> bins = new ArrayList<>();
        int ticks, days;
        boolean lost;
        BigInteger x = BigInteger.ZERO;

        Her copy() {
            Her h = new Her();
            for (Bin b : bins) {
                h.bins.add(b.copy());
            }
            h.ticks = ticks;
            h.days = days;
            h.lost = lost;
            h.x = x;
            return h;
        }

        Her seeded(long seed) {
            Her h = copy();
            h.x = BigInteger.valueOf(seed);
            return h;
        }

        int moments() {
            return bins.stream().mapToInt(Bin::moment).sum();
        }

        int lean() {
            return (moments() + 10 * ballast) / stiff;
        }

        void add(int[] sum, int slope) {
            for (Bin b : bins) {
                int[] w = b.rest(slope);
                sum[0] += w[0];
                sum[1] += w[1];
            }
        }

        int[] roll(int a) {
            int[] went = new int[2];
            if (lost) {
                throw new IllegalStateException("the model rolled a lost ship");
            }
            bins.forEach(b -> b.shaken += a);
            ticks++;
            add(went, lean() + a);
            add(went, lean() - a);
            lost = Math.abs(lean()) >= limit;
            return went;
        }

        void day(int sea) {
            for (Bin b : bins) {
                if (b.settled < b.stuff[1]) {
                    b.settled++;
                }
            }
            for (int k = 0; k < 4; k++) {
                if (!lost) {
                    roll(sea + draw());
                }
            }
            days++;
        }

        int draw() {
            x = x.multiply(new BigInteger("6364136223846793005")).add(new BigInteger("1442695040888963407"))
                    .mod(BigInteger.ONE.shiftLeft(64));
            return x.shiftRight(33).mod(BigInteger.valueOf(6)).intValue();
        }

        Her after(int sea, int n) {
            Her h = copy();
            for (int k = 0; k < n; k++) {
                if (!h.lost) {
                    h.day(sea);
                }
            }
            return h;
        }
    }

    String tape = "";
    final List<List<int[]>> stuffs = new ArrayList<>();
    final List<List<int[]>> ships = new ArrayList<>();
    final List<List<int[]>> plans = new ArrayList<>();
    final List<String> ruleTexts = new ArrayList<>();
    int stiff = 400, ballast = 0, limit = 25;
    Her her = null, imaged = null;
    final List<int[]> courses = new ArrayList<>();
    final List<int[]> ports = new ArrayList<>();
    final List<Integer> logs = new ArrayList<>();
    final List<Integer> cells = new ArrayList<>();

    static boolean in(int v, int lo, int hi) {
        return lo <= v && v <= hi;
    }

    boolean ready() {
        return her != null && !her.lost;
    }

    // ---- texts ----

    int feed(int a, int b, int c, int d, int e) {
        StringBuilder more = new StringBuilder(tape);
        for (int w : new int[] {a, b, c, d, e}) {
            for (int s = 24; s >= 0; s -= 8) {
                if ((w >> s & 0xFF) != 0) {
                    more.append((char) (w >> s & 0xFF));
                }
            }
        }
        if (more.length() > 160) {
            return NONE;
        }
        tape = more.toString();
        return tape.length();
    }

    boolean end(int n) {
        if (!in(n, 0, tape.length())) {
            return false;
        }
        tape = tape.substring(0, n);
        return true;
    }

    static final String[] LETTERS = {"rsmlw", "ch", "gftbk"};
    static final int[][] LOW = {{0, 0, 0, 0, 1}, {2, 4}, {0, 0, 0, 0, 0}};
    static final int[][] HIGH = {{20, 30, 30, 999, 9}, {12, 40}, {5, 480, 1, 40, 3}};
    static final int[][] USUAL = {{6, 0, 0, 500, 2}, {8, 20}, {0, 0, 0, 0, 0}};

    /** A machine of states, sign by sign, with an end sign behind: the fault, or NONE and rows filled. */
    static int readItems(String t, int sort, List<int[]> rows) {
        rows.clear();
        rows.add(USUAL[sort].clone());
        String seen = "";
        int state = 0; // 0 wants a letter, 1 wants the first digit, 2 in a number, 3 behind one
        int item = -1;
        String number = "";
        for (int k = 0; k <= t.length(); k++) {
            char sign = k < t.length() ? t.charAt(k) : (char) 0;
            boolean digit = sign >= '0' && sign <= '9';
            if (state == 2 && digit) {
                if (number.length() == 3) {
                    return k;
                }
                number += sign;
                continue;
            }
            if (state == 2) {
                int v = Integer.parseInt(number);
                if (v < LOW[sort][item] || v > HIGH[sort][item]) {
                    return k - 1;
                }
                rows.get(rows.size() - 1)[item] = v;
                state = 3;
            }
            if (sign == ' ') {
                continue;
            }
            if (state == 0) {
                item = sign == 0 ? -1 : LETTERS[sort].indexOf(sign);
                if (item < 0 || seen.indexOf(sign) >= 0) {
                    return k;
                }
                seen += sign;
                state = 1;
            } else if (state == 1) {
                if (!digit) {
                    return k;
                }
                number = "" + sign;
                state = 2;
            } else if (sign == ',') {
                state = 0;
            } else if (sign == ';' && sort != 0 && rows.size() < 4) {
                rows.add(USUAL[sort].clone());
                seen = "";
                state = 0;
            } else if (sign != 0) {
                return k;
            }
        }
        return NONE;
    }

    /** All ways at once: each part answers the set of places where it may end; far is the furthest miss. */
    static final class Ways {
        final String t;
        int far = 0;

        Ways(String t) {
            this.t = t;
        }

        int skip(int p) {
            while (p < t.length() && t.charAt(p) == ' ') {
                p++;
            }
            return p;
        }

        TreeSet<Integer> sign(TreeSet<Integer> from, String any) {
            TreeSet<Integer> to = new TreeSet<>();
            for (int p : from) {
                int q = skip(p);
                far = Math.max(far, q);
                if (q < t.length() && any.indexOf(t.charAt(q)) >= 0) {
                    to.add(q + 1);
                }
            }
            return to;
        }

        /** From one place with a depth, as depths differ from way to way. */
        TreeSet<Integer> one(int p) {
            return new TreeSet<>(List.of(p));
        }

        TreeSet<Integer> number(TreeSet<Integer> from) {
            TreeSet<Integer> to = new TreeSet<>();
            for (int p : from) {
                int q = skip(p);
                for (int k = 0; k < 4; k++) {
                    far = Math.max(far, q + k);
                    if (q + k >= t.length() || !Character.isDigit(t.charAt(q + k))) {
                        break;
                    }
                    // A number ends where its digits end.
                    boolean last = q + k + 1 >= t.length() || "0123456789".indexOf(t.charAt(q + k + 1)) < 0;
                    if (last) {
                        to.add(q + k + 1);
                    } else {
                        far = Math.max(far, q + k + 1);
                    }
                }
            }
            return to;
        }

        TreeSet<Integer> list(TreeSet<Integer> from, String between, int depth, int what) {
            TreeSet<Integer> all = part(from, depth, what);
            TreeSet<Integer> last = all;
            while (!last.isEmpty()) {
                last = part(sign(last, between), depth, what);
                last.removeAll(all);
                all.addAll(last);
            }
            return all;
        }

        TreeSet<Integer> part(TreeSet<Integer> from, int depth, int what) {
            if (from.isEmpty()) {
                return new TreeSet<>();
            }
            switch (what) {
                case 0:
                    return clause(from);
                case 1:
                    return list(from, "&", depth, 2);
                case 2:
                    return unit(from, depth);
                case 3:
                    return list(from, "*/", depth, 4);
                default:
                    return atom(from, depth);
            }
        }

        TreeSet<Integer> rule() {
            return list(one(0), ";", 0, 0);
        }

        TreeSet<Integer> clause(TreeSet<Integer> from) {
            TreeSet<Integer> open = sign(sign(from, "y"), ":");
            TreeSet<Integer> ends = sum(open, 0);
            ends.addAll(sum(sign(condition(open, 0), "?"), 0));
            return ends;
        }

        TreeSet<Integer> condition(TreeSet<Integer> from, int depth) {
            return from.isEmpty() ? from : list(from, "|", depth, 1);
        }

        TreeSet<Integer> sum(TreeSet<Integer> from, int depth) {
            return from.isEmpty() ? new TreeSet<>() : list(from, "+-", depth, 3);
        }

        TreeSet<Integer> unit(TreeSet<Integer> from, int depth) {
            TreeSet<Integer> ends = sum(sign(sum(from, depth), "=<>"), depth);
            if (depth < 6) {
                TreeSet<Integer> not = sign(from, "!");
                if (!not.isEmpty()) {
                    ends.addAll(unit(not, depth + 1));
                }
                ends.addAll(sign(condition(sign(from, "("), depth + 1), ")"));
            }
            return ends;
        }

        TreeSet<Integer> atom(TreeSet<Integer> from, int depth) {
            TreeSet<Integer> ends = sign(from, "ldswbm");
            ends.addAll(number(from));
            if (depth < 6) {
                ends.addAll(sign(sum(sign(from, "["), depth + 1), "]"));
            }
            return ends;
        }
    }

    static int ruleFault(String t) {
        Ways w = new Ways(t);
        for (int end : w.rule()) {
            if (w.skip(end) == t.length()) {
                return NONE;
            }
        }
        return w.far;
    }

    int fault(int sort) {
        if (!in(sort, 0, 3)) {
            return -2;
        }
        return sort == 3 ? ruleFault(tape) : readItems(tape, sort, new ArrayList<>());
    }

    int text(int sort) {
        if (!in(sort, 0, 3) || fault(sort) != NONE) {
            return NONE;
        }
        if (sort == 3) {
            if (ruleTexts.size() == 4) {
                return NONE;
            }
            ruleTexts.add(tape);
            tape = "";
            return ruleTexts.size() - 1;
        }
        List<List<int[]>> of = List.of(stuffs, ships, plans).get(sort);
        if (of.size() == new int[] {6, 3, 6}[sort]) {
            return NONE;
        }
        List<int[]> rows = new ArrayList<>();
        readItems(tape, sort, rows);
        of.add(rows);
        tape = "";
        return of.size() - 1;
    }

    int stuff(int s, int what) {
        if (!in(s, 0, stuffs.size() - 1) || !in(what, 0, 4)) {
            throw new NoSuchElementException();
        }
        return stuffs.get(s).get(0)[what];
    }

    static int told(List<List<int[]>> of, int k, int row, int what) {
        if (!in(k, 0, of.size() - 1)) {
            return NONE;
        }
        if (row == NONE && what == 0) {
            return of.get(k).size();
        }
        if (!in(row, 0, of.get(k).size() - 1) || !in(what, 0, of.get(k).get(row).length - 1)) {
            return NONE;
        }
        return of.get(k).get(row)[what];
    }

    int ship(int s, int hold, int what) {
        return told(ships, s, hold, what);
    }

    int plan(int p, int laying, int what) {
        return told(plans, p, laying, what);
    }

    // ---- her ----

    boolean set(int what, int v) {
        if (what == 0 && in(v, 1, 9999)) {
            stiff = v;
        } else if (what == 1 && in(v, -999, 999)) {
            ballast = v;
        } else if (what == 2 && in(v, 1, 60)) {
            limit = v;
        } else {
            return false;
        }
        return true;
    }

    boolean fits(int s, int p) {
        if (!in(s, 0, ships.size() - 1) || !in(p, 0, plans.size() - 1)) {
            return false;
        }
        List<int[]> holds = ships.get(s);
        List<int[]> layings = plans.get(p);
        if (holds.size() != layings.size()) {
            return false;
        }
        for (int k = 0; k < holds.size(); k++) {
            if (layings.get(k)[0] >= stuffs.size() || layings.get(k)[1] > holds.get(k)[0] * holds.get(k)[1]) {
                return false;
            }
        }
        return true;
    }

    Her laid(List<int[]> holds, List<int[]> layings, long seed) {
        Her h = new Her();
        for (int k = 0; k < holds.size(); k++) {
            int[] l = layings.get(k);
            int columns = holds.get(k)[0];
            Bin b = new Bin();
            b.height = holds.get(k)[1];
            b.stuff = stuffs.get(l[0]).get(0);
            b.board = l[3];
            b.sacks = l[4];
            b.units = new int[columns];
            for (int u = 0; u < l[1]; u++) {
                if (l[2] == 1) {
                    b.units[u % columns]++;
                } else {
                    b.units[target(b, u)]++;
                    b.rest(0);
                }
            }
            h.bins.add(b);
        }
        h.x = BigInteger.valueOf(seed);
        return h;
    }

    static int target(Bin b, int u) {
        int columns = b.units.length;
        int want = u % 2 == 0 ? (columns - 1) / 2 : columns / 2;
        int best = -1;
        for (int i = 0; i < columns; i++) {
            if (b.units[i] < b.height && (best < 0 || Math.abs(i - want) < Math.abs(best - want))) {
                best = i;
            }
        }
        return best;
    }

    boolean load(int s, int p, long seed) {
        if (!fits(s, p)) {
            return false;
        }
        her = laid(ships.get(s), plans.get(p), seed);
        return true;
    }

    int roll(int a) {
        if (!ready() || !in(a, 0, 40)) {
            return NONE;
        }
        return Arrays.stream(her.roll(a)).sum();
    }

    int day(int sea) {
        if (!ready() || !in(sea, 0, 30)) {
            return NONE;
        }
        her.day(sea);
        return her.days;
    }

    int column(int hold, int column, int what) {
        if (her == null || !in(hold, 0, her.bins.size() - 1)
                || !in(column, 0, her.bins.get(hold).units.length - 1) || !in(what, 0, 1)) {
            return NONE;
        }
        Bin b = her.bins.get(hold);
        return what == 0 ? b.units[column] : b.tall(column);
    }

    int hold(int hold, int what) {
        if (her == null || !in(hold, 0, her.bins.size() - 1) || !in(what, 0, 6)) {
            return HIDDEN;
        }
        Bin b = her.bins.get(hold);
        int tallest = 0;
        for (int i = 0; i < b.units.length; i++) {
            tallest = Math.max(tallest, b.tall(i));
        }
        return new int[] {Arrays.stream(b.units).sum(), b.moment(), b.settled, b.shaken, b.soup() ? 1 : 0,
            b.fast(), 10 * b.height - tallest}[what];
    }

    int about(int what) {
        if (her == null || !in(what, 0, 5)) {
            return HIDDEN;
        }
        return new int[] {her.lean(), her.ticks, her.days, her.lost ? 1 : 0, her.bins.size(), her.moments()}[what];
    }

    int goes(int a, int what) {
        if (!ready() || !in(a, 0, 40) || !in(what, 0, 2)) {
            return HIDDEN;
        }
        Her h = her.copy();
        int[] went = h.roll(a);
        return what == 2 ? h.lean() : went[what];
    }

    int least() {
        if (ready()) {
            for (int a = 0; a <= 40; a++) {
                if (goes(a, 0) + goes(a, 1) > 0) {
                    return a;
                }
            }
        }
        return NONE;
    }

    int runs(int a, int what) {
        if (!ready() || !in(a, 0, 40) || !in(what, 0, 2)) {
            return HIDDEN;
        }
        Her h = her.copy();
        int n = 0;
        while (true) {
            int[] went = h.roll(a);
            n++;
            if (went[0] + went[1] == 0 || h.lost || n == 40) {
                return what == 0 ? (h.lost ? 1 : 0) : what == 1 ? n : h.lean();
            }
        }
    }

    int ballast(int a) {
        if (!ready() || !in(a, 0, 40)) {
            return HIDDEN;
        }
        int asSet = ballast;
        List<Integer> tried = new ArrayList<>(List.of(0));
        for (int b = -999; b <= 901; b += 100) {
            tried.add(b);
        }
        tried.sort((p, q) -> Math.abs(p) != Math.abs(q) ? Math.abs(p) - Math.abs(q) : p - q);
        int best = 0;
        int least = Integer.MAX_VALUE;
        for (int b : tried) {
            ballast = b;
            Her h = her.copy();
            for (int k = 0; k < 3; k++) {
                if (!h.lost) {
                    h.roll(a);
                }
            }
            if (Math.abs(h.lean()) < least) {
                least = Math.abs(h.lean());
                best = b;
            }
        }
        ballast = asSet;
        return best;
    }

    int course(int sea, int days) {
        if (!in(sea, 0, 30) || !in(days, 1, 9) || courses.size() == 6) {
            return NONE;
        }
        courses.add(new int[] {sea, days});
        return courses.size() - 1;
    }

    int best(int what) {
        if (!ready() || !in(what, 0, 1)) {
            return HIDDEN;
        }
        int[] best = null;
        for (int k = 0; k < courses.size(); k++) {
            Her h = her.after(courses.get(k)[0], courses.get(k)[1]);
            if (!h.lost && (best == null || Math.abs(h.lean()) < Math.abs(best[1]))) {
                best = new int[] {k, h.lean()};
            }
        }
        return best == null ? HIDDEN : best[what];
    }

    // ---- plans ----

    static int price(List<int[]> holds, List<int[]> layings) {
        int sum = 0;
        for (int k = 0; k < holds.size(); k++) {
            int[] l = layings.get(k);
            sum += 3 * l[3] + 20 * holds.get(k)[0] * l[4] + (l[2] == 1 ? l[1] : 0);
        }
        return sum;
    }

    int cost(int s, int p) {
        if (!in(s, 0, ships.size() - 1) || !in(p, 0, plans.size() - 1)
                || ships.get(s).size() != plans.get(p).size()) {
            return NONE;
        }
        return price(ships.get(s), plans.get(p));
    }

    int lostOf(List<int[]> holds, List<int[]> layings, int sea, int days, int n) {
        int lost = 0;
        for (int seed = 0; seed < n; seed++) {
            lost += laid(holds, layings, seed).after(sea, days).lost ? 1 : 0;
        }
        return lost;
    }

    int safe(int s, int p, int sea, int days, int n) {
        if (!fits(s, p) || !in(sea, 0, 30) || !in(days, 1, 9) || !in(n, 1, 5)) {
            return NONE;
        }
        return n - lostOf(ships.get(s), plans.get(p), sea, days, n);
    }

    int cheapest(int s, int sea, int days, int n, int lost) {
        if (!in(s, 0, ships.size() - 1) || !in(lost, 0, 5)) {
            return NONE;
        }
        int best = NONE;
        for (int p = 0; p < plans.size(); p++) {
            int safe = safe(s, p, sea, days, n);
            if (safe != NONE && n - safe <= lost && (best == NONE || cost(s, p) < cost(s, best))) {
                best = p;
            }
        }
        return best;
    }

    int fitted(int s, int p, int hold, int sea, int days, int n, int what) {
        if (!fits(s, p) || !in(hold, 0, ships.get(s).size() - 1) || !in(sea, 0, 30) || !in(days, 1, 9)
                || !in(n, 1, 5) || !in(what, 0, 1)) {
            return NONE;
        }
        int[] best = {NONE, NONE};
        for (int sacks = 0; sacks <= 3; sacks++) {
            for (int board = 0; board <= 40; board += 5) {
                List<int[]> layings = new ArrayList<>();
                for (int[] l : plans.get(p)) {
                    layings.add(l.clone());
                }
                layings.get(hold)[3] = board;
                layings.get(hold)[4] = sacks;
                int price = price(ships.get(s), layings);
                if (lostOf(ships.get(s), layings, sea, days, n) == 0 && (best[0] == NONE || price < best[1])) {
                    best = new int[] {41 * sacks + board, price};
                }
            }
        }
        return best[what];
    }

    int log(int lean) {
        if (!in(lean, -60, 60) || logs.size() == 20) {
            return NONE;
        }
        logs.add(lean);
        return logs.size();
    }

    int agree(int s, int a, int by) {
        if (!in(s, 0, ships.size() - 1) || !in(a, 0, 40) || !in(by, 0, 60)) {
            return NONE;
        }
        int bits = 0;
        for (int p = 0; p < plans.size(); p++) {
            if (fits(s, p)) {
                Her h = laid(ships.get(s), plans.get(p), 0);
                boolean agrees = true;
                for (int seen : logs) {
                    if (!h.lost) {
                        h.roll(a);
                    }
                    agrees = agrees && Math.abs(h.lean() - seen) <= by;
                }
                bits += agrees ? 1 << p : 0;
            }
        }
        return bits;
    }

    // ---- the heap ----

    int heap(int wet) {
        if (!in(wet, 0, 99) || cells.size() == 60) {
            return NONE;
        }
        cells.add(wet);
        return cells.size();
    }

    int miss(int cans, int bound) {
        if (!in(cans, 1, 10) || !in(bound, 0, 99) || cans > cells.size()) {
            return NONE;
        }
        int dry = (int) cells.stream().filter(w -> w <= bound).count();
        BigInteger above = BigInteger.valueOf(1000000);
        BigInteger below = BigInteger.ONE;
        for (int k = 0; k < cans; k++) {
            above = above.multiply(BigInteger.valueOf(Math.max(0, dry - k)));
            below = below.multiply(BigInteger.valueOf(cells.size() - k));
        }
        return above.divide(below).intValue();
    }

    int enough(int bound, int parts) {
        if (!in(bound, 0, 99) || !in(parts, 0, 1000000)) {
            return NONE;
        }
        for (int cans = 1; cans <= 10; cans++) {
            int miss = miss(cans, bound);
            if (miss != NONE && miss <= parts) {
                return cans;
            }
        }
        return NONE;
    }

    int refuse(int cans, int bound, int losing, int refusing) {
        if (miss(cans, bound) == NONE || !in(losing, 0, 99999) || !in(refusing, 0, 99999)) {
            return NONE;
        }
        BigInteger first = BigInteger.valueOf(miss(cans, bound)).multiply(BigInteger.valueOf(losing));
        BigInteger second = BigInteger.valueOf(refusing).multiply(BigInteger.valueOf(1000000));
        return cells.stream().anyMatch(w -> w > bound) && first.compareTo(second) > 0 ? 1 : 0;
    }

    // ---- images, hands ----

    int image() {
        if (her == null) {
            return NONE;
        }
        imaged = her.copy();
        return imaged.ticks;
    }

    int back() {
        if (imaged == null) {
            return NONE;
        }
        her = imaged.copy();
        return her.ticks;
    }

    boolean noHold(int hold) {
        return !ready() || !in(hold, 0, her.bins.size() - 1);
    }

    int trim(int hold, int times) {
        if (noHold(hold) || !in(times, 1, 99)) {
            return NONE;
        }
        int[] u = her.bins.get(hold).units;
        for (int done = 0; done < times; done++) {
            int most = Arrays.stream(u).max().getAsInt();
            int least = Arrays.stream(u).min().getAsInt();
            if (most - least < 2) {
                return done;
            }
            u[indexOf(u, most)]--;
            u[indexOf(u, least)]++;
        }
        return times;
    }

    static int indexOf(int[] u, int v) {
        for (int i = 0; i < u.length; i++) {
            if (u[i] == v) {
                return i;
            }
        }
        return -1;
    }

    int pour(int hold, int column, int units) {
        if (noHold(hold) || !in(column, 0, her.bins.get(hold).units.length - 1) || !in(units, 1, 99)) {
            return NONE;
        }
        Bin b = her.bins.get(hold);
        for (int came = 0; came < units; came++) {
            if (b.tallOf(b.units[column] + 1) > 10 * b.height) {
                return came;
            }
            b.units[column]++;
            b.rest(her.lean());
        }
        return units;
    }

    int take(int hold, int column, int units) {
        if (noHold(hold) || !in(column, 0, her.bins.get(hold).units.length - 1) || !in(units, 1, 99)) {
            return NONE;
        }
        Bin b = her.bins.get(hold);
        int taken = Math.min(units, b.units[column]);
        b.units[column] -= taken;
        b.rest(her.lean());
        return taken;
    }

    int heel(int a) {
        if (!ready() || !in(a, -40, 40)) {
            return NONE;
        }
        int[] went = new int[2];
        her.add(went, her.lean() + a);
        her.lost = Math.abs(her.lean()) >= limit;
        return went[0] + went[1];
    }

    int tilt(int s, int columns, int units) {
        if (!in(s, 0, stuffs.size() - 1) || !in(columns, 2, 12) || !in(units, 1, 40)) {
            return NONE;
        }
        for (int slope = 0; slope <= 60; slope++) {
            Bin b = new Bin();
            b.height = 40;
            b.stuff = stuffs.get(s).get(0);
            b.units = new int[columns];
            Arrays.fill(b.units, units);
            if (Arrays.stream(b.rest(slope)).sum() > 0) {
                return slope;
            }
        }
        return NONE;
    }

    int ripens(int hold, int a) {
        if (noHold(hold) || !in(a, 1, 40)) {
            return NONE;
        }
        Bin b = her.bins.get(hold).copy();
        for (int k = 0; k <= 999; k++) {
            if (b.soup()) {
                return k;
            }
            b.shaken += a;
        }
        return NONE;
    }

    int slide(int hold, int a) {
        if (noHold(hold) || !in(a, 0, 40)) {
            return NONE;
        }
        Her h = her.copy();
        h.roll(a);
        int bits = 0;
        for (int i = 0; i < h.bins.get(hold).units.length; i++) {
            bits += h.bins.get(hold).units[i] < her.bins.get(hold).units[i] ? 1 << i : 0;
        }
        return bits;
    }

    // ---- ports, seeds, book ----

    int port(int days, int worth) {
        if (!in(days, 1, 9) || !in(worth, 0, 9999) || ports.size() == 6) {
            return NONE;
        }
        ports.add(new int[] {days, worth});
        return ports.size() - 1;
    }

    int reach(int sea, int what) {
        if (!ready() || !in(sea, 0, 30) || !in(what, 0, 1)) {
            return HIDDEN;
        }
        int bits = 0;
        int best = NONE;
        for (int k = 0; k < ports.size(); k++) {
            if (!her.after(sea, ports.get(k)[0]).lost) {
                bits += 1 << k;
                if (best == NONE || ports.get(k)[1] > ports.get(best)[1]) {
                    best = k;
                }
            }
        }
        return what == 0 ? bits : best;
    }

    int over(int sea, int days, int n, int what) {
        if (!ready() || !in(sea, 0, 30) || !in(days, 1, 9) || !in(n, 1, 20) || !in(what, 0, 2)) {
            return HIDDEN;
        }
        int[] out = new int[3];
        for (int seed = 0; seed < n; seed++) {
            Her h = her.seeded(seed).after(sea, days);
            out[0] += h.lost ? 1 : 0;
            out[1] += h.lean();
            out[2] = Math.max(out[2], Math.abs(h.lean()));
        }
        return out[what];
    }

    int soonest(int sea) {
        if (ready() && in(sea, 0, 30)) {
            for (int d = 1; d <= 30; d++) {
                if (her.after(sea, d).lost) {
                    return d;
                }
            }
        }
        return NONE;
    }

    int book(int times) {
        if (!ready() || !in(times, -1, 99)) {
            return NONE;
        }
        if (times == NONE) {
            int best = 0;
            for (int t = 1; t <= 99; t++) {
                best = book(t) < book(best) ? t : best;
            }
            return best;
        }
        int off = 0;
        for (int a = 5; a <= 40; a += 5) {
            int less = her.lean() - times * a / 10;
            int more = her.lean() + times * a / 10;
            int said = Math.abs(less) > Math.abs(more) ? less : more;
            off += Math.abs(said - goes(a, 2));
        }
        return off;
    }

    // ---- rules ----

    /** By cutting the text at its loosest sign, from the right. */
    static int sumOf(String t, java.util.Map<Character, Integer> letters) {
        for (String signs : new String[] {"+-", "*/"}) {
            int at = lastAtTop(t, signs);
            if (at >= 0) {
                long left = sumOf(t.substring(0, at), letters);
                long right = sumOf(t.substring(at + 1), letters);
                long v = 0;
                switch (t.charAt(at)) {
                    case '+':
                        v = left + right;
                        break;
                    case '-':
                        v = left - right;
                        break;
                    case '*':
                        v = left * right;
                        break;
                    default:
                        v = right == 0 ? 0 : left / right;
                }
                return (int) Math.max(-1000000, Math.min(1000000, v));
            }
        }
        if (t.charAt(0) == '[') {
            return sumOf(t.substring(1, t.length() - 1), letters);
        }
        return Character.isDigit(t.charAt(0)) ? Integer.parseInt(t) : letters.get(t.charAt(0));
    }

    static int lastAtTop(String t, String signs) {
        int depth = 0;
        for (int k = t.length() - 1; k >= 0; k--) {
            depth += ")]".indexOf(t.charAt(k)) >= 0 ? 1 : "([".indexOf(t.charAt(k)) >= 0 ? -1 : 0;
            if (depth == 0 && signs.indexOf(t.charAt(k)) >= 0) {
                return k;
            }
        }
        return -1;
    }

    static boolean holds(String t, java.util.Map<Character, Integer> letters) {
        int at = lastAtTop(t, "|");
        if (at >= 0) {
            return holds(t.substring(0, at), letters) || holds(t.substring(at + 1), letters);
        }
        at = lastAtTop(t, "&");
        if (at >= 0) {
            return holds(t.substring(0, at), letters) && holds(t.substring(at + 1), letters);
        }
        if (t.charAt(0) == '!') {
            return !holds(t.substring(1), letters);
        }
        if (t.charAt(0) == '(') {
            return holds(t.substring(1, t.length() - 1), letters);
        }
        at = lastAtTop(t, "=<>");
        int left = sumOf(t.substring(0, at), letters);
        int right = sumOf(t.substring(at + 1), letters);
        return t.charAt(at) == '=' ? left == right : t.charAt(at) == '<' ? left < right : left > right;
    }

    static int worth(String rule, java.util.Map<Character, Integer> letters) {
        for (String clause : rule.replace(" ", "").split(";")) {
            String body = clause.substring(2);
            int q = body.indexOf('?');
            if (q < 0 || holds(body.substring(0, q), letters)) {
                return sumOf(body.substring(q + 1), letters);
            }
        }
        return 0;
    }

    int[] followed(int rule, int sea, int days, int n) {
        int asSet = ballast;
        int[] out = new int[3];
        for (int seed = 0; seed < n; seed++) {
            ballast = asSet;
            Her h = her.seeded(seed);
            for (int d = 0; d < days; d++) {
                if (h.lost) {
                    break;
                }
                int shaken = h.bins.stream().mapToInt(b -> b.shaken).max().getAsInt();
                int next = worth(ruleTexts.get(rule), java.util.Map.of('l', h.lean(), 'd', h.days, 's', shaken,
                        'w', sea, 'b', ballast, 'm', h.moments() / 100));
                next = Math.max(-999, Math.min(999, next));
                out[2] += Math.abs(next - ballast);
                ballast = next;
                h.day(sea);
            }
            out[0] += h.lost ? 1 : 0;
            out[1] += Math.abs(h.lean());
        }
        ballast = asSet;
        return out;
    }

    int follow(int rule, int sea, int days, int n, int what) {
        if (!ready() || !in(rule, 0, ruleTexts.size() - 1) || !in(sea, 0, 30) || !in(days, 1, 9) || !in(n, 1, 5)
                || !in(what, 0, 2)) {
            return HIDDEN;
        }
        return followed(rule, sea, days, n)[what];
    }

    int better(int sea, int days, int n) {
        if (!ready() || !in(sea, 0, 30) || !in(days, 1, 9) || !in(n, 1, 5)) {
            return NONE;
        }
        int best = NONE;
        int[] least = null;
        for (int r = 0; r < ruleTexts.size(); r++) {
            int[] out = followed(r, sea, days, n);
            if (least == null || Arrays.compare(out, least) < 0) {
                best = r;
                least = out;
            }
        }
        return best;
    }

    int rules() {
        return ruleTexts.size();
    }

    int count(int what) {
        if (!in(what, 0, 9)) {
            return HIDDEN;
        }
        return new int[] {stuffs.size(), ships.size(), plans.size(), tape.length(), stiff, ballast, limit,
            courses.size(), logs.size(), cells.size()}[what];
    }
}
