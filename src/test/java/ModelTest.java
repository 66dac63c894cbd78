import java.util.NoSuchElementException;
import java.util.Random;

/** All promises: long runs of calls drawn with fixed seeds, the class against the slow model. */
public final class ModelTest {
    private static final int RUNS = 160;
    private static final int CALLS = 500;
    private static int wrong = 0;

    private final Random random;
    private final GrainShift x = new GrainShift();
    private final Model m = new Model();
    private final int run;
    static final int[] usefulAnswers = new int[48];

    private ModelTest(int run) {
        this.run = run;
        this.random = new Random(1000 + run);
    }

    public static void main(String[] args) {
        int runs = args.length > 0 ? Integer.parseInt(args[0]) : RUNS;
        for (int run = 0; run < runs; run++) {
            new ModelTest(run).play();
        }
        for (int k = 0; k < usefulAnswers.length; k++) {
            if (usefulAnswers[k] < runs / 10) {
                wrong++;
                System.out.println("call " + k + " was hardly ever taken: " + usefulAnswers[k]);
            }
        }
        System.out.println(wrong == 0 ? "the class answers as the model" : wrong + " answers are not as the model's");
        if (wrong != 0) {
            System.exit(1);
        }
    }

    private void due(int kind, String call, long got, long want) {
        if (want != -1 && want != -1000000) {
            usefulAnswers[kind]++;
        }
        if (got != want) {
            wrong++;
            if (wrong < 40) {
                System.out.println("run " + run + ": " + call + " answered " + got + ", the model " + want);
            }
        }
    }

    private int below(int n) {
        return random.nextInt(n);
    }

    /** Mostly within the bounds, at times at or just beyond them, at times far off. */
    private int about(int low, int high) {
        int kind = below(60);
        if (kind == 0) {
            return low - 1;
        }
        if (kind == 1) {
            return high + 1;
        }
        if (kind == 2) {
            return random.nextInt();
        }
        if (kind < 8) {
            return random.nextBoolean() ? low : high;
        }
        return low + below(high - low + 1);
    }

    private void play() {
        prepare();
        for (int k = 0; k < CALLS - 80; k++) {
            step();
        }
    }

    private void put(String text) {
        due(1, "end(0)", x.end(0) ? 1 : 0, m.end(0) ? 1 : 0);
        for (int k = 0; k < text.length(); k += 20) {
            String part = text.substring(k, Math.min(text.length(), k + 20));
            int[] w = new int[5];
            for (int i = 0; i < 5; i++) {
                w[i] = Checks.word(part, 4 * i);
            }
            due(0, "feed of " + part, x.feed(w[0], w[1], w[2], w[3], w[4]), m.feed(w[0], w[1], w[2], w[3], w[4]));
        }
    }

    private void tell(int sort, String text) {
        put(text);
        due(2, "fault(" + sort + ") of '" + text + "'", x.fault(sort), m.fault(sort));
        due(3, "text(" + sort + ") of '" + text + "'", x.text(sort), m.text(sort));
    }

    private void prepare() {
        // Small numbers let more go; every fourth run draws from all that may be told.
        boolean wide = run % 4 == 3;
        int holds = 1 + below(wide ? 4 : 3);
        for (int k = 0; k < 3; k++) {
            tell(0, "r" + below(wide ? 21 : 9) + ",s" + below(31) + ",m" + below(wide ? 31 : 6) + ",l" + below(1000)
                    + ",w" + (1 + below(9)));
        }
        StringBuilder ship = new StringBuilder();
        for (int k = 0; k < holds; k++) {
            ship.append(k == 0 ? "" : ";").append("c").append(2 + below(11)).append(",h");
            ship.append(4 + below(wide ? 37 : 20));
        }
        tell(1, ship.toString());
        for (int p = 0; p < 3; p++) {
            StringBuilder plan = new StringBuilder();
            for (int k = 0; k < holds; k++) {
                int room = m.ship(0, k, 0) * m.ship(0, k, 1);
                plan.append(k == 0 ? "" : ";").append("g").append(below(3));
                plan.append(",f").append(Math.min(480, below(room + 1 + (below(12) == 0 ? 9 : 0))));
                plan.append(",t").append(below(2));
                plan.append(",b").append(below(2) * below(wide ? 41 : 12)).append(",k").append(below(3) / 2 * below(4));
            }
            tell(2, plan.toString());
        }
        set(0, 1 + below(300));
        set(2, 10 + below(51));
        load();
    }

    private void set(int what, int v) {
        due(7, "set(" + what + ", " + v + ")", x.set(what, v) ? 1 : 0, m.set(what, v) ? 1 : 0);
    }

    private void load() {
        int s = below(8) == 0 ? about(0, 3) : 0;
        int p = about(0, 3);
        long seed = random.nextBoolean() ? below(9) : random.nextLong();
        due(8, "load(" + s + ", " + p + ", " + seed + ")", x.load(s, p, seed) ? 1 : 0, m.load(s, p, seed) ? 1 : 0);
    }

    private String anyText(int sort) {
        String text = sort == 3 ? ruleText() : itemText(sort);
        if (below(2) == 0) {
            return text;
        }
        StringBuilder b = new StringBuilder(text);
        String signs = "rsmlwchgftbk0123456789,;: y?!()[]<>=&|+-*/d" + (char) 200;
        for (int k = below(3); k >= 0; k--) {
            int at = below(b.length() + 1);
            int kind = below(4);
            if (kind == 0) {
                b.insert(at, signs.charAt(below(signs.length())));
            } else if (kind == 1 && at < b.length()) {
                b.setCharAt(at, signs.charAt(below(signs.length())));
            } else if (kind == 2 && at < b.length()) {
                b.deleteCharAt(at);
            } else {
                b.setLength(at);
            }
        }
        return b.length() > 160 ? b.substring(0, 160) : b.toString();
    }

    private String blanks() {
        return below(6) == 0 ? "  ".substring(below(2)) : "";
    }

    private String itemText(int sort) {
        StringBuilder b = new StringBuilder();
        int rows = sort == 0 ? 1 : 1 + below(4 + below(8) / 7);
        for (int r = 0; r < rows; r++) {
            b.append(r == 0 ? "" : blanks() + ";" + blanks());
            String left = Model.LETTERS[sort];
            int items = 1 + below(left.length());
            for (int k = 0; k < items; k++) {
                int at = below(left.length());
                char letter = left.charAt(at);
                int item = Model.LETTERS[sort].indexOf(letter);
                left = below(20) == 0 ? left : left.substring(0, at) + left.substring(at + 1);
                int low = Model.LOW[sort][item];
                int high = Model.HIGH[sort][item];
                int v = below(25) == 0 ? Math.max(0, about(low, high) % 2000) : low + below(high - low + 1);
                b.append(k == 0 ? "" : blanks() + "," + blanks()).append(letter).append(blanks()).append(v);
                if (left.isEmpty()) {
                    break;
                }
            }
        }
        return b.length() > 160 ? b.substring(0, 160) : b.toString();
    }

    private String ruleText() {
        StringBuilder b = new StringBuilder();
        int n = 1 + below(3);
        for (int k = 0; k < n; k++) {
            b.append(k == 0 ? "" : ";").append("y").append(blanks()).append(":").append(blanks());
            if (below(3) > 0) {
                b.append(condition(0)).append(blanks()).append("?");
            }
            b.append(sum(0));
        }
        return b.length() > 160 ? b.substring(0, 160) : b.toString();
    }

    private String condition(int depth) {
        return unit(depth) + (below(3) == 0 ? (random.nextBoolean() ? "&" : "|") + unit(depth) : "")
                + (below(5) == 0 ? (random.nextBoolean() ? "&" : "|") + unit(depth) : "");
    }

    private String unit(int depth) {
        int kind = below(6);
        if (kind == 0 && depth < 7) {
            return "!" + blanks() + unit(depth + 1);
        }
        if (kind == 1 && depth < 7) {
            return "(" + condition(depth + 1) + ")";
        }
        return sum(depth) + blanks() + "=<>".charAt(below(3)) + blanks() + sum(depth);
    }

    private String sum(int depth) {
        StringBuilder b = new StringBuilder(atom(depth));
        for (int k = below(4); k > 1; k--) {
            b.append(blanks()).append("+-*/".charAt(below(4))).append(blanks()).append(atom(depth));
        }
        return b.toString();
    }

    private String atom(int depth) {
        int kind = below(5);
        if (kind == 0 && depth < 7) {
            return "[" + sum(depth + 1) + "]";
        }
        return kind < 3 ? "" + "ldswbm".charAt(below(6)) : "" + below(below(2) == 0 ? 10 : 10000);
    }

    private void step() {
        int kind = below(60);
        if (kind < 10) {
            textsAndTables(kind);
        } else if (kind < 26) {
            her(kind);
        } else if (kind < 38) {
            tried(kind);
        } else if (kind < 50) {
            plansAndHeap(kind);
        } else {
            rest(kind);
        }
        look();
    }

    private void look() {
        int h = about(0, 3);
        int c = about(0, 11);
        int w = about(0, 1);
        due(11, "column(" + h + ", " + c + ", " + w + ")", x.column(h, c, w), m.column(h, c, w));
        if (below(3) == 0) {
            for (int i = 0; i < 12; i++) {
                due(11, "column(0, " + i + ", 0)", x.column(0, i, 0), m.column(0, i, 0));
            }
            due(13, "about(0)", x.about(0), m.about(0));
        }
    }

    private void textsAndTables(int kind) {
        int k = about(0, 5);
        int r = about(-1, 3);
        int w = about(0, 4);
        int sort = below(4);
        switch (kind) {
            case 0:
            case 1:
            case 2:
                String text = anyText(sort);
                put(text);
                for (int s = 0; s < 4; s++) {
                    due(2, "fault(" + s + ") of '" + text + "'", x.fault(s), m.fault(s));
                }
                if (sort == 3 || below(3) == 0) {
                    due(3, "text(" + sort + ")", x.text(sort), m.text(sort));
                }
                break;
            case 3:
                int n = about(0, 170);
                due(1, "end(" + n + ")", x.end(n) ? 1 : 0, m.end(n) ? 1 : 0);
                sort = about(0, 3);
                due(2, "fault(" + sort + ")", x.fault(sort), m.fault(sort));
                break;
            case 4:
                due(5, "ship", x.ship(k, r, w), m.ship(k, r, w));
                break;
            case 5:
                due(6, "plan", x.plan(k, r, w), m.plan(k, r, w));
                break;
            case 6:
                due(4, "stuff(" + k + ", " + w + ")", stuffOf(k, w, true), stuffOf(k, w, false));
                break;
            case 7:
                due(47, "count(" + 2 * k + ")", x.count(2 * k), m.count(2 * k));
                due(47, "count(" + (2 * k + 1) + ")", x.count(2 * k + 1), m.count(2 * k + 1));
                break;
            case 8:
                due(46, "rules()", x.rules(), m.rules());
                break;
            default:
                int f = random.nextInt() & 0x7F007F7F;
                due(0, "feed", x.feed(f, 0, f, 0, f), m.feed(f, 0, f, 0, f));
        }
    }

    private int stuffOf(int k, int w, boolean real) {
        try {
            return real ? x.stuff(k, w) : m.stuff(k, w);
        } catch (NoSuchElementException e) {
            return -77;
        }
    }

    private void her(int kind) {
        int a = below(3) == 0 ? about(0, 40) : about(0, 8);
        int sea = below(4) == 0 ? about(0, 30) : about(0, 4);
        int h = about(0, 3);
        int c = about(0, 11);
        int n = below(2) == 0 ? about(1, 99) : about(1, 6);
        switch (kind) {
            case 10:
                int what = about(0, 2);
                set(what, what == 0 ? about(1, below(2) == 0 ? 9999 : 200) : what == 1 ? about(-999, 999) : about(1, 60));
                break;
            case 11:
                load();
                break;
            case 12:
                due(9, "roll(" + a + ")", x.roll(a), m.roll(a));
                break;
            case 13:
                due(10, "day(" + sea + ")", x.day(sea), m.day(sea));
                break;
            case 14:
                for (int w = -1; w < 8; w++) {
                    due(12, "hold(" + h + ", " + w + ")", x.hold(h, w), m.hold(h, w));
                }
                break;
            case 15:
                for (int w = -1; w < 7; w++) {
                    due(13, "about(" + w + ")", x.about(w), m.about(w));
                }
                break;
            case 16:
                due(30, "image()", x.image(), m.image());
                break;
            case 17:
            case 18:
                due(31, "back()", x.back(), m.back());
                break;
            case 19:
                due(32, "trim(" + h + ", " + n + ")", x.trim(h, n), m.trim(h, n));
                break;
            case 20:
            case 21:
                due(33, "pour(" + h + ", " + c + ", " + n + ")", x.pour(h, c, n), m.pour(h, c, n));
                break;
            case 22:
                due(34, "take(" + h + ", " + c + ", " + n + ")", x.take(h, c, n), m.take(h, c, n));
                break;
            case 23:
                int heel = below(3) == 0 ? about(-40, 40) : about(-9, 9);
                due(35, "heel(" + heel + ")", x.heel(heel), m.heel(heel));
                break;
            default:
                if (m.her == null || m.her.lost) {
                    load();
                }
        }
    }

    private void tried(int kind) {
        int a = below(3) == 0 ? about(0, 40) : about(0, 8);
        int sea = below(4) == 0 ? about(0, 30) : about(0, 4);
        int w = about(0, 2);
        int h = about(0, 3);
        switch (kind) {
            case 26:
                due(14, "goes(" + a + ", " + w + ")", x.goes(a, w), m.goes(a, w));
                break;
            case 27:
                due(15, "least()", x.least(), m.least());
                break;
            case 28:
                due(16, "runs(" + a + ", " + w + ")", x.runs(a, w), m.runs(a, w));
                break;
            case 29:
                due(17, "ballast(" + a + ")", x.ballast(a), m.ballast(a));
                break;
            case 30:
                int days = about(1, 9);
                due(18, "course(" + sea + ", " + days + ")", x.course(sea, days), m.course(sea, days));
                break;
            case 31:
                due(19, "best(" + (w - 1) + ")", x.best(w - 1), m.best(w - 1));
                break;
            case 32:
                int s = about(0, 5);
                int c = about(2, 12);
                int u = about(1, 40);
                due(36, "tilt(" + s + ", " + c + ", " + u + ")", x.tilt(s, c, u), m.tilt(s, c, u));
                break;
            case 33:
                due(37, "ripens(" + h + ", " + a + ")", x.ripens(h, a), m.ripens(h, a));
                break;
            case 34:
                due(38, "slide(" + h + ", " + a + ")", x.slide(h, a), m.slide(h, a));
                break;
            case 35:
                due(42, "soonest(" + sea + ")", x.soonest(sea), m.soonest(sea));
                break;
            case 36:
                int t = about(-1, 99);
                due(43, "book(" + t + ")", x.book(t), m.book(t));
                break;
            default:
                due(43, "book(-1)", x.book(-1), m.book(-1));
        }
    }

    private int oddOr(int usual, int low, int high) {
        return below(5) == 0 ? about(low, high) : usual;
    }

    private void plansAndHeap(int kind) {
        int s = oddOr(0, 0, 2);
        int p = about(0, 5);
        int sea = below(4) == 0 ? about(0, 30) : about(0, 4);
        int days = about(1, 9);
        int n = about(1, 5);
        int wet = about(0, 99);
        switch (kind) {
            case 38:
                due(20, "cost(" + s + ", " + p + ")", x.cost(s, p), m.cost(s, p));
                break;
            case 39:
                due(21, "safe(" + s + ", " + p + ", " + sea + ", " + days + ", " + n + ")",
                        x.safe(s, p, sea, days, n), m.safe(s, p, sea, days, n));
                break;
            case 40:
                int lost = about(0, 5);
                due(22, "cheapest(" + s + ", " + sea + ", " + days + ", " + n + ", " + lost + ")",
                        x.cheapest(s, sea, days, n, lost), m.cheapest(s, sea, days, n, lost));
                break;
            case 41:
                if (below(4) == 0) {
                    int hold = about(0, 2);
                    p = about(0, 2);
                    for (int w = 0; w < 2; w++) {
                        due(23, "fitted(" + s + ", " + p + ", " + hold + ", " + sea + ", " + days + ", " + n + ", "
                                + w + ")", x.fitted(s, p, hold, sea, days, n, w), m.fitted(s, p, hold, sea, days, n, w));
                    }
                }
                break;
            case 42:
                int lean = below(4) == 0 ? about(-60, 60) : about(-3, 3);
                if (below(6) == 0) {
                    due(24, "log(" + lean + ")", x.log(lean), m.log(lean));
                }
                break;
            case 43:
                int by = about(0, 60);
                due(25, "agree(" + s + ", " + sea + ", " + by + ")", x.agree(s, sea, by), m.agree(s, sea, by));
                break;
            case 44:
                for (int k = below(9); k >= 0; k--) {
                    wet = about(0, 99);
                    due(26, "heap(" + wet + ")", x.heap(wet), m.heap(wet));
                }
                break;
            case 45:
                int cans = about(1, 10);
                due(27, "miss(" + cans + ", " + wet + ")", x.miss(cans, wet), m.miss(cans, wet));
                break;
            case 46:
                int parts = about(0, below(2) == 0 ? 1000000 : 50000);
                due(28, "enough(" + wet + ", " + parts + ")", x.enough(wet, parts), m.enough(wet, parts));
                break;
            default:
                int cans2 = about(1, 10);
                int losing = about(0, 99999);
                int refusing = about(0, below(2) == 0 ? 99999 : 999);
                due(29, "refuse(" + cans2 + ", " + wet + ", " + losing + ", " + refusing + ")",
                        x.refuse(cans2, wet, losing, refusing), m.refuse(cans2, wet, losing, refusing));
        }
    }

    private void rest(int kind) {
        int sea = below(4) == 0 ? about(0, 30) : about(0, 4);
        int days = about(1, 9);
        switch (kind) {
            case 50:
                int worth = below(2) == 0 ? about(0, 9999) : about(0, 3);
                due(39, "port(" + days + ", " + worth + ")", x.port(days, worth), m.port(days, worth));
                break;
            case 51:
            case 52:
                for (int w = 0; w < 2; w++) {
                    due(40, "reach(" + sea + ", " + w + ")", x.reach(sea, w), m.reach(sea, w));
                }
                break;
            case 53:
            case 54:
                int n = about(1, 20);
                for (int w = -1; w < 4; w++) {
                    due(41, "over(" + sea + ", " + days + ", " + n + ", " + w + ")", x.over(sea, days, n, w),
                            m.over(sea, days, n, w));
                }
                break;
            case 55:
            case 56:
            case 57:
                int rule = about(0, 3);
                int seeds = about(1, 5);
                for (int w = -1; w < 4; w++) {
                    due(44, "follow(" + rule + ", " + sea + ", " + days + ", " + seeds + ", " + w + ")",
                            x.follow(rule, sea, days, seeds, w), m.follow(rule, sea, days, seeds, w));
                }
                break;
            default:
                int seeds2 = about(1, 5);
                due(45, "better(" + sea + ", " + days + ", " + seeds2 + ")", x.better(sea, days, seeds2),
                        m.better(sea, days, seeds2));
        }
    }
}
