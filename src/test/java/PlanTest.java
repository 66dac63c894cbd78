/** Promises 22 to 27: costs, voyages of plans, boards and sacks, logs. */
public final class PlanTest {
    private static final Checks c = new Checks();

    public static void main(String[] args) {
        costs();
        safe();
        cheapest();
        fitted();
        fittedTies();
        fittedOddColumns();
        logs();
        agree();
        c.finish();
    }

    private static void costs() {
        GrainShift x = new GrainShift();
        Checks.tell(x, 1, "c2,h4;c5,h4");
        Checks.tell(x, 1, "c3,h4");
        Checks.tell(x, 2, "f9,b7,k1;f480,t1,b40,k3");
        Checks.tell(x, 2, "f9");
        Checks.tell(x, 2, "f9,t1,b1");
        c.same("no stuffs are asked for, no room", x.cost(0, 0), 21 + 40 + 480 + 120 + 300);
        c.same("poured costs nothing", x.cost(1, 1), 0);
        c.same("odd columns pay for boards", x.cost(1, 2), 12);
        c.same("not as many holds", x.cost(0, 1), -1);
        c.same("not as many holds", x.cost(1, 0), -1);
        c.same("no ship", x.cost(2, 0), -1);
        c.same("no ship", x.cost(-1, 0), -1);
        c.same("no plan", x.cost(0, 3), -1);
        c.same("no plan", x.cost(0, -1), -1);
    }

    /** Plans 0: loose, 1: with sacks, 2: with a board, 3: too much, 4: full, 5: as 4, poured. */
    private static GrainShift choice() {
        GrainShift x = new GrainShift();
        Checks.tell(x, 0, "r2,w1");
        Checks.tell(x, 1, "c2,h10");
        Checks.tell(x, 2, "f10,t1");
        Checks.tell(x, 2, "f10,t1,k2");
        Checks.tell(x, 2, "f10,t1,b5");
        Checks.tell(x, 2, "f21");
        Checks.tell(x, 2, "f20,t1");
        Checks.tell(x, 2, "f20");
        x.set(0, 2);
        x.set(2, 2);
        return x;
    }

    private static void safe() {
        GrainShift x = choice();
        // Loose by 10: D 100: 4 go (1 9, LEAN 4), slope -6: D -140: 6 go (7 3, LEAN -2); by more likewise.
        c.same("loose", x.safe(0, 0, 10, 1, 5), 0);
        c.same("board", x.safe(0, 2, 10, 9, 5), 5);
        c.same("full", x.safe(0, 4, 30, 9, 3), 3);
        c.same("calm", x.safe(0, 1, 0, 9, 5), 5);
        c.same("too much", x.safe(0, 3, 0, 1, 1), -1);
        int[][] bad = {{1, 0, 0, 1, 1}, {-1, 0, 0, 1, 1}, {0, 6, 0, 1, 1}, {0, -1, 0, 1, 1}, {0, 0, -1, 1, 1},
            {0, 0, 31, 1, 1}, {0, 0, 0, 0, 1}, {0, 0, 0, 10, 1}, {0, 0, 0, 1, 0}, {0, 0, 0, 1, 6}};
        for (int[] b : bad) {
            c.same("no such ones", x.safe(b[0], b[1], b[2], b[3], b[4]), -1);
        }
        c.same("she is not loaded by it", x.about(0), Checks.HIDDEN);
        x.set(2, 60);
        c.same("LIMIT of now", x.safe(0, 0, 10, 1, 5), 5);
        x.set(1, 12);
        c.same("BALLAST of now", x.safe(0, 4, 0, 1, 5), 0);
        x.set(0, 3);
        c.same("STIFF of now", x.safe(0, 4, 0, 1, 5), 5);
    }

    private static void cheapest() {
        GrainShift x = choice();
        c.same("poured to the top costs nothing", x.cheapest(0, 10, 1, 5, 0), 5);
        GrainShift y = new GrainShift();
        Checks.tell(y, 0, "r2,w1");
        Checks.tell(y, 1, "c2,h10");
        Checks.tell(y, 2, "f10,t1,b6");
        Checks.tell(y, 2, "f10,t1");
        Checks.tell(y, 2, "f10,t1,b5");
        Checks.tell(y, 2, "f10,t1,b5");
        Checks.tell(y, 2, "f21");
        y.set(0, 2);
        y.set(2, 2);
        c.same("the board", y.cheapest(0, 10, 1, 5, 0), 2);
        c.same("all may be lost", y.cheapest(0, 10, 1, 5, 5), 1);
        c.same("lost in fewer than all", y.cheapest(0, 10, 1, 5, 4), 2);
        c.same("lost in 1 of 1", y.cheapest(0, 10, 1, 1, 1), 1);
        y.set(1, 6);
        c.same("all are lost", y.cheapest(0, 0, 1, 1, 0), -1);
        int[][] bad = {{1, 0, 1, 1, 0}, {-1, 0, 1, 1, 0}, {0, -1, 1, 1, 0}, {0, 31, 1, 1, 0}, {0, 0, 0, 1, 0},
            {0, 0, 10, 1, 0}, {0, 0, 1, 0, 0}, {0, 0, 1, 6, 0}, {0, 0, 1, 1, -1}, {0, 0, 1, 1, 6}};
        for (int[] b : bad) {
            c.same("no such ones", x.cheapest(b[0], b[1], b[2], b[3], b[4]), -1);
        }
    }

    private static void fitted() {
        GrainShift x = choice();
        // Loose by 10 .. 15: a board of 5 holds all, for 15; sacks cost 40 each.
        c.same("board 5", x.fitted(0, 0, 0, 10, 2, 5, 0), 5);
        c.same("cost", x.fitted(0, 0, 0, 10, 2, 5, 1), 10 + 15);
        c.same("what was there is replaced", x.fitted(0, 1, 0, 10, 2, 5, 1), 10 + 15);
        c.same("calm: nothing", x.fitted(0, 1, 0, 0, 1, 1, 0), 0);
        c.same("calm: nothing", x.fitted(0, 1, 0, 0, 1, 1, 1), 10);
        c.same("too much", x.fitted(0, 3, 0, 0, 1, 1, 0), -1);
        c.same("the plan is as it was", x.plan(0, 0, 3), 0);
        x.set(1, 6);
        c.same("none helps", x.fitted(0, 4, 0, 0, 1, 1, 0), -1);
        c.same("none helps", x.fitted(0, 4, 0, 0, 1, 1, 1), -1);
        x.set(1, 0);
        int[][] bad = {{1, 0, 0, 0, 1, 1, 0}, {0, 6, 0, 0, 1, 1, 0}, {0, 0, 1, 0, 1, 1, 0}, {0, 0, -1, 0, 1, 1, 0},
            {0, 0, 0, 31, 1, 1, 0}, {0, 0, 0, -1, 1, 1, 0}, {0, 0, 0, 0, 0, 1, 0}, {0, 0, 0, 0, 10, 1, 0},
            {0, 0, 0, 0, 1, 0, 0}, {0, 0, 0, 0, 1, 6, 0}, {0, 0, 0, 0, 1, 1, 2}, {0, 0, 0, 0, 1, 1, -1}};
        for (int[] b : bad) {
            c.same("no such ones", x.fitted(b[0], b[1], b[2], b[3], b[4], b[5], b[6]), -1);
        }
        GrainShift y = new GrainShift();
        Checks.tell(y, 0, "r2,w1");
        Checks.tell(y, 1, "c2,h10;c2,h10");
        Checks.tell(y, 2, "f10,t1,b5;f10,t1,k1");
        y.set(0, 2);
        y.set(2, 2);
        c.same("the second hold", y.fitted(0, 0, 1, 10, 2, 5, 0), 5);
        c.same("the second hold, all costs", y.fitted(0, 0, 1, 10, 2, 5, 1), 10 + 15 + 10 + 15);
    }

    private static void fittedTies() {
        // Nothing goes: 0 of each is the least.
        GrainShift x = Checks.loaded("r20", "c2,h10", "f20,t1,b40,k3");
        c.same("bare", x.fitted(0, 0, 0, 30, 9, 5, 0), 0);
        c.same("bare", x.fitted(0, 0, 0, 30, 9, 5, 1), 20);
        // Two columns: a board of 15 costs 45, sacks of 1 cost 40: sacks 1 when boards up to 10 don't help.
        GrainShift y = new GrainShift();
        Checks.tell(y, 0, "r6,w1");
        Checks.tell(y, 1, "c2,h40");
        Checks.tell(y, 2, "f60,t1");
        y.set(0, 2);
        y.set(2, 1);
        // By 9, 10, 11 loose grain ends as 31 29 (LEAN -1); with FAST 90 as 30 30.
        c.same("sacks", y.fitted(0, 0, 0, 6, 2, 5, 0), 41);
        c.same("sacks", y.fitted(0, 0, 0, 6, 2, 5, 1), 100);
        // 38 38 by up to REST and 10: SACKS 3 or BOARD 40, for 120 each, let none go; less lets her be lost.
        GrainShift z = new GrainShift();
        Checks.tell(z, 0, "r5,w9");
        Checks.tell(z, 1, "c2,h40");
        Checks.tell(z, 2, "f76,t1");
        z.set(0, 18);
        z.set(2, 1);
        c.same("of several the least sacks", z.fitted(0, 0, 0, 10, 9, 5, 0), 40);
        c.same("of several the least sacks", z.fitted(0, 0, 0, 10, 9, 5, 1), 196);
    }

    private static void fittedOddColumns() {
        GrainShift x = new GrainShift();
        Checks.tell(x, 0, "r2,w1");
        Checks.tell(x, 1, "c3,h10");
        Checks.tell(x, 2, "f15,t1,b5");
        x.set(0, 2);
        x.set(2, 2);
        // Boards do nothing here, so they only cost.
        int got = x.fitted(0, 0, 0, 3, 2, 5, 0);
        c.same("sacks", got > 0 ? 1 : 0, 1);
        c.same("no board", got % 41, 0);
        c.same("cost", x.fitted(0, 0, 0, 3, 2, 5, 1), 15 + 60 * (got / 41));
        GrainShift y = new GrainShift();
        Checks.tell(y, 0, "r5,w9");
        Checks.tell(y, 1, "c3,h40");
        Checks.tell(y, 2, "f114,t1");
        y.set(0, 9);
        y.set(2, 1);
        c.same("the most sacks", y.fitted(0, 0, 0, 10, 9, 5, 0), 123);
        c.same("the most sacks", y.fitted(0, 0, 0, 10, 9, 5, 1), 114 + 180);
        c.same("four would do", y.fitted(0, 0, 0, 12, 9, 5, 0), -1);
    }

    private static void logs() {
        GrainShift x = new GrainShift();
        c.same("below", x.log(-61), -1);
        c.same("above", x.log(61), -1);
        c.same("far", x.log(Integer.MIN_VALUE), -1);
        for (int k = 1; k <= 20; k++) {
            c.same("log", x.log(k % 2 == 0 ? -60 : 60), k);
        }
        c.same("20 are there", x.log(0), -1);
        c.same("count", x.count(8), 20);
    }

    private static void agree() {
        GrainShift x = choice();
        x.set(0, 1);
        x.set(2, 6);
        c.same("no logs: all that can be loaded", x.agree(0, 10, 0), 1 + 2 + 4 + 16 + 32);
        // By 10: loose: D 100: 4 go (1 9, LEAN 8), slope -2: D -100: 4 back (5 5): LEAN 0.
        x.log(0);
        c.same("all level", x.agree(0, 0, 0), 1 + 2 + 4 + 16 + 32);
        x.set(1, 1);
        c.same("LEAN 10", x.agree(0, 0, 0), 0);
        c.same("by 10: those that hold", x.agree(0, 0, 10), 4 + 16 + 32);
        x.log(10);
        x.log(10);
        c.same("all logs count", x.agree(0, 0, 9), 0);
        c.same("lost, she rolls no more", x.agree(0, 0, 10), 4 + 16 + 32);
        for (int[] b : new int[][] {{1, 0, 0}, {-1, 0, 0}, {0, -1, 0}, {0, 41, 0}, {0, 0, -1}, {0, 0, 61}}) {
            c.same("no such ones", x.agree(b[0], b[1], b[2]), -1);
        }
        GrainShift y = new GrainShift();
        Checks.tell(y, 1, "c2");
        c.same("no plans", y.agree(0, 0, 0), 0);
    }
}
