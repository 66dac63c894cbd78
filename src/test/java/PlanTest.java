/** Part 4 and promises 22 to 27: costs, voyages of plans, boards and sacks, logs. */
public final class PlanTest {
    private static final Checks c = new Checks();

    public static void main(String[] args) {
        costs();
        anyShipByAnyPlan();
        voyages();
        safe();
        cheapest();
        fitted();
        fittedAtTheEnds();
        fittedTies();
        fittedOddColumns();
        fittedAsPlansAre();
        logs();
        agree();
        agreeUntilLost();
        c.finish();
    }

    private static void refused(GrainShift x, int[][] bad) {
        for (int[] b : bad) {
            long got = b.length == 2 ? x.cost(b[0], b[1]) : b.length == 3 ? x.agree(b[0], b[1], b[2])
                    : x.fitted(b[0], b[1], b[2], b[3], b[4], b[5], b[6]);
            c.same("no such ones " + java.util.Arrays.toString(b), got, -1);
        }
    }

    private static void costs() {
        c.part(4, "COST of a PLAN: 3 times each BOARD's height, 20 times COLUMNS of a hold times its SACKS, 1 for each UNIT that is TRIMMED.");
        GrainShift x = new GrainShift();
        Checks.tell(x, 1, "c2,h4;c5,h4");
        Checks.tell(x, 1, "c12,h4");
        for (String plan : new String[] {"f9,b7,k1;f480,t1,b40,k3", "f9", "f480,t1", "b40", "k3", "t1"}) {
            Checks.tell(x, 2, plan);
        }
        c.promise(22, "COST of a PLAN on a SHIP.");
        c.same("no STUFFS are asked for, no room", x.cost(0, 0), 21 + 40 + 480 + 120 + 300);
        c.same("poured costs nothing", x.cost(1, 1), 0);
        c.same("TRIMMED", x.cost(1, 2), 480);
        c.same("BOARD", x.cost(1, 3), 120);
        c.same("SACKS", x.cost(1, 4), 720);
        c.same("none TRIMMED", x.cost(1, 5), 0);
        c.promise(22, "NONE: no such ones, not as many holds.");
        refused(x, new int[][] {{0, 1}, {1, 0}, {2, 1}, {-1, 0}, {3, 1}, {1, 6}, {0, -1}, {1, Integer.MAX_VALUE},
            {Integer.MIN_VALUE, 1}});
        c.same("nothing told", new GrainShift().cost(0, 0), -1);
    }

    /** Fewer stuffs and plans than ships, and not as many holds as the number of a ship would tell. */
    private static void anyShipByAnyPlan() {
        GrainShift x = new GrainShift();
        Checks.tell(x, 0, "r20");
        for (String ship : new String[] {"c2,h10", "c3,h10;c2,h10", "c2,h10;c3,h10;c4,h10"}) {
            Checks.tell(x, 1, ship);
        }
        Checks.tell(x, 2, "f3,b1;f3,k1;f3,t1");
        Checks.tell(x, 2, "f5,t1");
        c.promise(10, "To LOAD.");
        c.yes("load(2, 0)", x.load(2, 0, 0));
        c.same("holds", x.about(4), 3);
        c.row("the last hold", x, 2, "1 1 1 0");
        c.yes("load(0, 1)", x.load(0, 1, 0));
        c.same("holds", x.about(4), 1);
        for (int[] b : new int[][] {{0, 0}, {1, 0}, {1, 1}, {2, 1}}) {
            c.no("load(" + b[0] + ", " + b[1] + ")", x.load(b[0], b[1], 0));
            c.same("cost", x.cost(b[0], b[1]), -1);
        }
        c.promise(22, "COST of a PLAN on a SHIP.");
        c.same("cost(2, 0)", x.cost(2, 0), 3 + 60 + 3);
        c.same("cost(0, 1)", x.cost(0, 1), 5);
        c.promise(23, "SAFE. NONE: it can't be loaded, no such ones.");
        c.same("safe(2, 0)", x.safe(2, 0, 0, 1, 1), 1);
        c.promise(24, "CHEAPEST with at most so many LOST (0 .. 5). NONE: none, no such ones.");
        c.same("of ship 2", x.cheapest(2, 0, 1, 1, 0), 0);
        c.same("of ship 1", x.cheapest(1, 0, 1, 1, 5), -1);
        c.same("of ship 0", x.cheapest(0, 0, 1, 1, 0), 1);
        c.promise(25, "FITTED: 41 times SACKS and BOARD (what 0), COST (1). NONE: none, no such ones, it can't be loaded.");
        int[] costs = {63, 6, 66};
        for (int hold = 0; hold < 3; hold++) {
            c.same("hold " + hold, x.fitted(2, 0, hold, 0, 1, 1, 1), costs[hold]);
        }
        c.same("no hold 3", x.fitted(2, 0, 3, 0, 1, 1, 1), -1);
        c.same("no hold 1 of ship 0", x.fitted(0, 1, 1, 0, 1, 1, 1), -1);
    }

    /** A list of 4, and soup as soon as SHAKEN is above 9: by a sea of 0 she is lost on the first day by seeds 0, 3, 4. */
    private static GrainShift sickly() {
        GrainShift x = new GrainShift();
        Checks.tell(x, 0, "r20,m1,l9,w9");
        Checks.tell(x, 1, "c2,h20");
        Checks.tell(x, 2, "f20,t1");
        Checks.tell(x, 2, "f20,t1,b10");
        Checks.tell(x, 2, "f40");
        Checks.tell(x, 2, "f41");
        x.set(0, 9);
        x.set(1, 4);
        x.set(2, 10);
        return x;
    }

    private static void voyages() {
        c.part(4, "VOYAGE of a PLAN: loaded (STIFF, BALLAST, LIMIT of now), so many DAYS (1 .. 9) by a SEA.");
        GrainShift x = sickly();
        c.same("one day", x.safe(0, 0, 0, 1, 2), 1);
        c.same("nine days", x.safe(0, 0, 0, 9, 2), 0);
        // Seed 1 draws 2 3 0 0: by a sea of 1 SHAKEN comes to 9, by 2 it is 11 with the third roll.
        c.same("a SEA of 1", x.safe(0, 0, 1, 1, 2), 1);
        c.same("a SEA of 2", x.safe(0, 0, 2, 1, 2), 0);
        x.set(2, 60);
        c.same("LIMIT of now", x.safe(0, 0, 0, 1, 5), 5);
        x.set(2, 10);
        x.set(1, 0);
        c.same("BALLAST of now", x.safe(0, 2, 0, 1, 5), 5);
        x.set(1, 9);
        c.same("BALLAST of now", x.safe(0, 2, 0, 1, 5), 0);
        x.set(0, 10);
        c.same("STIFF of now", x.safe(0, 2, 0, 1, 5), 5);
        c.same("she is not loaded by it", x.about(0), Checks.HIDDEN);
    }

    private static void safe() {
        c.part(4, "SAFE: of n seeds (0 .. n less 1; n 1 .. 5) in how many she is not LOST.");
        GrainShift x = sickly();
        int[] safe = {0, 1, 2, 2, 2};
        for (int n = 1; n <= 5; n++) {
            c.same("of " + n, x.safe(0, 0, 0, 1, n), safe[n - 1]);
            c.same("with a board", x.safe(0, 1, 30, 9, n), n);
        }
        c.promise(23, "SAFE. NONE: it can't be loaded, no such ones.");
        c.same("too much", x.safe(0, 3, 0, 1, 1), -1);
        for (int[] b : new int[][] {{1, 0, 0, 1, 1}, {-1, 0, 0, 1, 1}, {0, 4, 0, 1, 1}, {0, -1, 0, 1, 1},
            {0, 0, -1, 1, 1}, {0, 0, 31, 1, 1}, {0, 0, 0, 0, 1}, {0, 0, 0, 10, 1}, {0, 0, 0, 1, 0}, {0, 0, 0, 1, 6}}) {
            c.same("no such ones", x.safe(b[0], b[1], b[2], b[3], b[4]), -1);
        }
        GrainShift y = new GrainShift();
        c.same("nothing told", y.safe(0, 0, 0, 1, 1), -1);
        Checks.tell(y, 1, "c2;c2");
        Checks.tell(y, 2, "f1");
        c.same("not as many holds, no STUFF", y.safe(0, 0, 0, 1, 1), -1);
    }

    private static void cheapest() {
        c.part(4, "CHEAPEST: of all PLANS told that can be loaded the one with the least COST, LOST in no more than so many of n (of several the lowest).");
        GrainShift x = sickly();
        c.same("poured to the top costs nothing", x.cheapest(0, 0, 1, 5, 0), 2);
        GrainShift y = new GrainShift();
        Checks.tell(y, 0, "r20,m1,l9,w9");
        Checks.tell(y, 1, "c2,h20");
        for (String plan : new String[] {"f41", "f20,t1,b11", "f20,t1", "f20,t1,b10", "f20,t1,b10", "f1;f1"}) {
            Checks.tell(y, 2, plan);
        }
        y.set(0, 9);
        y.set(1, 4);
        y.set(2, 10);
        // PLAN 2 costs 20 and is lost in 3 of 5; PLANS 3 and 4 cost 50, PLAN 1 53, and these are never lost.
        c.same("lost in 3 of 5", y.cheapest(0, 0, 1, 5, 3), 2);
        c.same("in no more than 2", y.cheapest(0, 0, 1, 5, 2), 3);
        c.same("in none", y.cheapest(0, 0, 1, 5, 0), 3);
        c.same("in 5", y.cheapest(0, 0, 1, 5, 5), 2);
        c.same("lost in 1 of 1", y.cheapest(0, 0, 1, 1, 1), 2);
        c.same("more than n", y.cheapest(0, 0, 1, 1, 5), 2);
        c.same("in none of 1", y.cheapest(0, 0, 1, 1, 0), 3);
        y.set(1, 9);
        c.promise(24, "CHEAPEST with at most so many LOST (0 .. 5). NONE: none, no such ones.");
        c.same("all are lost", y.cheapest(0, 0, 1, 1, 0), -1);
        c.same("all may be lost", y.cheapest(0, 0, 1, 1, 1), 2);
        for (int[] b : new int[][] {{1, 0, 1, 1, 0}, {-1, 0, 1, 1, 0}, {0, -1, 1, 1, 0}, {0, 31, 1, 1, 0},
            {0, 0, 0, 1, 0}, {0, 0, 10, 1, 0}, {0, 0, 1, 0, 0}, {0, 0, 1, 6, 0}, {0, 0, 1, 1, -1}, {0, 0, 1, 1, 6}}) {
            c.same("no such ones", x.cheapest(b[0], b[1], b[2], b[3], b[4]), -1);
        }
        GrainShift z = new GrainShift();
        c.same("no ship", z.cheapest(0, 0, 1, 1, 0), -1);
        Checks.tell(z, 1, "c2");
        c.same("no PLANS", z.cheapest(0, 0, 1, 1, 5), -1);
        Checks.tell(z, 2, "f1");
        c.same("none can be loaded", z.cheapest(0, 0, 1, 1, 5), -1);
        Checks.tell(z, 0, "r1");
        c.same("now it can", z.cheapest(0, 0, 1, 1, 5), 0);
    }

    private static void fittedAs(GrainShift x, int plan, int sea, int days, int fitted, int cost) {
        c.same("fitted", x.fitted(0, plan, 0, sea, days, 5, 0), fitted);
        c.same("cost", x.fitted(0, plan, 0, sea, days, 5, 1), cost);
    }

    private static void fitted() {
        c.part(4, "FITTED: of a PLAN, one hold of it with BOARD 0, 5, .. 40 and SACKS 0 .. 3 instead: the least COST with which she is LOST in none of n");
        GrainShift x = new GrainShift();
        Checks.tell(x, 0, "r2,w1");
        Checks.tell(x, 1, "c2,h10");
        for (String plan : new String[] {"f10,t1", "f10,t1,b7,k2", "f21", "f20,t1,b40,k3"}) {
            Checks.tell(x, 2, plan);
        }
        x.set(0, 2);
        x.set(2, 2);
        // Loose by 10 .. 15: a board of 5 holds all, for 15; sacks cost 40 each.
        fittedAs(x, 0, 10, 2, 5, 10 + 15);
        c.same("what was there is replaced", x.fitted(0, 1, 0, 10, 2, 5, 1), 10 + 15);
        fittedAs(x, 1, 0, 1, 0, 10);
        fittedAs(x, 3, 30, 9, 0, 20);
        c.same("the plan is as it was", x.plan(1, 0, 3), 7);
        c.promise(25, "FITTED: 41 times SACKS and BOARD (what 0), COST (1). NONE: none, no such ones, it can't be loaded.");
        c.same("too much", x.fitted(0, 2, 0, 0, 1, 1, 0), -1);
        refused(x, new int[][] {{1, 0, 0, 0, 1, 1, 0}, {-1, 0, 0, 0, 1, 1, 0}, {0, 4, 0, 0, 1, 1, 0},
            {0, -1, 0, 0, 1, 1, 0}, {0, 0, 1, 0, 1, 1, 0}, {0, 0, -1, 0, 1, 1, 0}, {0, 0, 0, 31, 1, 1, 0},
            {0, 0, 0, -1, 1, 1, 0}, {0, 0, 0, 0, 0, 1, 0}, {0, 0, 0, 0, 10, 1, 0}, {0, 0, 0, 0, 1, 0, 0},
            {0, 0, 0, 0, 1, 6, 0}, {0, 0, 0, 0, 1, 1, 2}, {0, 0, 0, 0, 1, 1, -1}});
        x.set(1, 6);
        c.same("none helps", x.fitted(0, 3, 0, 0, 1, 1, 0), -1);
        c.same("none helps", x.fitted(0, 3, 0, 0, 1, 1, 1), -1);
        GrainShift y = new GrainShift();
        Checks.tell(y, 0, "r2,w1");
        Checks.tell(y, 1, "c2,h10;c2,h10");
        Checks.tell(y, 2, "f10,t1,b5;f10,t1,k1");
        y.set(0, 2);
        y.set(2, 2);
        c.same("the second hold", y.fitted(0, 0, 1, 10, 2, 5, 0), 5);
        c.same("the second hold, all costs", y.fitted(0, 0, 1, 10, 2, 5, 1), 10 + 15 + 10 + 15);
        c.same("no third hold", y.fitted(0, 0, 2, 10, 2, 5, 1), -1);
    }

    private static GrainShift twoColumns(int rest, int units, int weight, int stiff) {
        GrainShift x = new GrainShift();
        Checks.tell(x, 0, "r" + rest + ",w" + weight);
        Checks.tell(x, 1, "c2,h40");
        Checks.tell(x, 2, "f" + units + ",t1");
        x.set(0, stiff);
        x.set(2, 1);
        return x;
    }

    private static void fittedAtTheEnds() {
        c.part(4, "BOARD 0, 5, .. 40 and SACKS 0 .. 3 instead:");
        // A step of one loses her: a board as high as the grain is the least that holds it, in steps of 5.
        for (int height : new int[] {1, 5, 6, 10, 11, 12}) {
            GrainShift x = twoColumns(0, 2 * height, 9, 18);
            fittedAs(x, 0, 20, 9, (height + 4) / 5 * 5, 2 * height + (height + 4) / 5 * 15);
        }
        // REST 3 and a sea of 0: by 5 one goes over and back. From 3 more than what holds on, one more comes back.
        int[] bySea = {0, 41, 41, 41, 82, 82, 82, 40};
        for (int sea = 0; sea < bySea.length; sea++) {
            c.same("by a sea of " + sea, twoColumns(3, 78, 9, 18).fitted(0, 0, 0, sea, 2, 5, 0), bySea[sea]);
        }
    }

    private static void fittedTies() {
        c.part(4, "(of several the least SACKS, then BOARD);");
        // Two columns: a board of 15 costs 45, sacks of 1 cost 40: sacks 1 when boards up to 10 don't help.
        GrainShift y = twoColumns(6, 60, 1, 2);
        // By 9, 10, 11 loose grain ends as 31 29 (LEAN -1); with FAST 90 as 30 30.
        fittedAs(y, 0, 6, 2, 41, 100);
        // 38 38 by up to REST and 10: SACKS 3 or BOARD 40, for 120 each, let none go; less lets her be lost.
        GrainShift z = twoColumns(5, 76, 9, 18);
        fittedAs(z, 0, 10, 9, 40, 196);
    }

    private static void fittedOddColumns() {
        c.part(4, "with odd COLUMNS BOARDS cost, too.");
        GrainShift y = new GrainShift();
        Checks.tell(y, 0, "r5,w9");
        Checks.tell(y, 1, "c3,h40");
        Checks.tell(y, 2, "f114,t1");
        Checks.tell(y, 2, "f114,t1,b40");
        y.set(0, 9);
        y.set(2, 1);
        c.same("COST of a board that does nothing", y.cost(0, 1), 114 + 120);
        fittedAs(y, 0, 10, 9, 123, 114 + 180);
        fittedAs(y, 1, 10, 9, 123, 114 + 180);
        c.same("four sacks would do", y.fitted(0, 0, 0, 12, 9, 5, 0), -1);
    }

    /** Each board and each number of sacks told as a plan of its own, poured by it, then its voyages. */
    private static void fittedAsPlansAre() {
        c.part(4, "BOARD 0, 5, .. 40 and SACKS 0 .. 3 instead:");
        String[][] told = {{"r2,w5", "c4,h20", "f40"}, {"r4,w9", "c5,h12", "f30"}, {"r1,w7,m1,l90", "c6,h20", "f70,t1"},
            {"r3,w9", "c3,h30", "f33,b9"}, {"r0,w3", "c8,h9", "f20,k2"}};
        int helped = 0;
        for (String[] t : told) {
            for (int stiff = 5; stiff <= 80; stiff += 25) {
                for (int sea = 0; sea <= 12; sea += 3) {
                    int best = -1;
                    int least = -1;
                    for (int k = 0; k < 36; k++) {
                        String plan = t[2].replaceAll(",[bk]\\d", "") + ",b" + k % 9 * 5 + ",k" + k / 9;
                        GrainShift x = voyager(t[0], t[1], plan, stiff);
                        if (x.safe(0, 0, sea, 2, 3) == 3 && (best < 0 || x.cost(0, 0) < least)) {
                            best = 41 * (k / 9) + k % 9 * 5;
                            least = x.cost(0, 0);
                        }
                    }
                    GrainShift x = voyager(t[0], t[1], t[2], stiff);
                    c.same("fitted", x.fitted(0, 0, 0, sea, 2, 3, 0), best);
                    c.same("cost", x.fitted(0, 0, 0, sea, 2, 3, 1), least);
                    helped += best > 0 ? 1 : 0;
                }
            }
        }
        c.yes("boards and sacks helped at times", helped > 5);
    }

    private static GrainShift voyager(String stuff, String ship, String plan, int stiff) {
        GrainShift x = new GrainShift();
        Checks.tell(x, 0, stuff);
        Checks.tell(x, 1, ship);
        Checks.tell(x, 2, plan);
        x.set(0, stiff);
        x.set(2, 5);
        return x;
    }

    private static void logs() {
        c.part(4, "LOGS (20 at most):");
        GrainShift x = new GrainShift();
        c.promise(26, "A LOG: how many there are.");
        for (int k = 1; k <= 20; k++) {
            c.same("log", x.log(k % 2 == 0 ? -60 : 60), k);
        }
        c.promise(26, "NONE: out of bounds (-60 .. 60), there are 20.");
        c.same("20 are there", x.log(0), -1);
        c.same("count", x.count(8), 20);
        GrainShift y = new GrainShift();
        for (int lean : new int[] {-61, 61, Integer.MIN_VALUE, Integer.MAX_VALUE}) {
            c.same("log(" + lean + ")", y.log(lean), -1);
        }
        c.same("count", y.count(8), 0);
    }

    /** Loaded and rolled by 1, LEAN is 7, 8, 9, 9 ..; the second plan is full and keeps 5; the third can't be loaded. */
    private static GrainShift leaning(int limit, int... logs) {
        GrainShift x = new GrainShift();
        Checks.tell(x, 0, "r1,w1");
        Checks.tell(x, 1, "c2,h10");
        Checks.tell(x, 2, "f10,t1");
        Checks.tell(x, 2, "f20,t1");
        Checks.tell(x, 2, "f21");
        x.set(0, 2);
        x.set(1, 1);
        x.set(2, limit);
        for (int lean : logs) {
            x.log(lean);
        }
        return x;
    }

    private static void agree() {
        c.part(4, "a LEAN that was seen behind the i-th ROLL (in the order told), all by one a: PLANS that AGREE with all by no more than so much: loaded, then a ROLL by a ahead of each LOG");
        c.promise(27, "AGREE by so much (0 .. 60), as bits of PLANS.");
        c.same("no LOGS: all that can be loaded", leaning(25).agree(0, 1, 0), 3);
        c.same("just so", leaning(25, 7, 8, 9, 9).agree(0, 1, 0), 1);
        c.same("the order", leaning(25, 8, 7, 9, 9).agree(0, 1, 0), 0);
        c.same("another a", leaning(25, 7, 8, 9, 9).agree(0, 0, 0), 0);
        c.same("the first is off by 1", leaning(25, 6, 8, 9, 9).agree(0, 1, 0), 0);
        c.same("the last is off by 1", leaning(25, 7, 8, 9, 10).agree(0, 1, 0), 0);
        c.same("off by 1 either way", leaning(25, 6, 9, 10, 8).agree(0, 1, 1), 1);
        c.same("off by 2", leaning(25, 5, 8, 9, 9).agree(0, 1, 1), 0);
        c.same("by 3 not both", leaning(25, 7, 8, 9, 9).agree(0, 1, 3), 1);
        c.same("by 4 both", leaning(25, 7, 8, 9, 9).agree(0, 1, 4), 3);
        c.same("the full one alone", leaning(25, 5, 5, 5).agree(0, 40, 0), 2);
        c.same("by 60", leaning(25, 60, -51).agree(0, 1, 60), 3);
        int[] twenty = new int[20];
        java.util.Arrays.fill(twenty, 5);
        c.same("twenty LOGS", leaning(25, twenty).agree(0, 40, 0), 2);
        twenty[19] = 6;
        c.same("the twentieth", leaning(25, twenty).agree(0, 40, 0), 0);
        c.promise(27, "NONE: no such ones (a 0 .. 40).");
        refused(leaning(25), new int[][] {{1, 0, 0}, {-1, 0, 0}, {0, -1, 0}, {0, 41, 0}, {0, 0, -1}, {0, 0, 61},
            {Integer.MAX_VALUE, 0, 0}, {0, Integer.MIN_VALUE, 0}, {0, 0, Integer.MAX_VALUE}});
        GrainShift y = new GrainShift();
        c.same("no ship", y.agree(0, 0, 0), -1);
        Checks.tell(y, 1, "c2");
        c.same("no plans", y.agree(0, 0, 0), 0);
    }

    private static void agreeUntilLost() {
        c.part(4, "(LOST, she rolls no more).");
        c.same("LOST by the second, LEAN stays 8", leaning(8, 7, 8, 8, 8).agree(0, 1, 0), 1);
        c.same("it goes no further", leaning(8, 7, 8, 9, 9).agree(0, 1, 0), 0);
        c.same("all are LOST by the first", leaning(1, 5, 5, 5).agree(0, 1, 0), 2);
    }
}
