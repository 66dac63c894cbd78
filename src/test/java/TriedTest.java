/** Promises 16 to 21: what is tried from her as she is, apart from it. */
public final class TriedTest {
    private static final Checks c = new Checks();

    public static void main(String[] args) {
        refusedWithoutHer();
        goes();
        least();
        runs();
        ballast();
        ballastByRolls();
        courses();
        best();
        c.finish();
    }

    private static void refusedWithoutHer() {
        GrainShift none = new GrainShift();
        none.course(1, 1);
        GrainShift lost = lostShip();
        lost.course(1, 1);
        for (GrainShift x : new GrainShift[] {none, lost}) {
            c.same("goes", x.goes(1, 0), Checks.HIDDEN);
            c.same("least", x.least(), -1);
            c.same("runs", x.runs(1, 0), Checks.HIDDEN);
            c.same("ballast", x.ballast(1), Checks.HIDDEN);
            c.same("best", x.best(0), Checks.HIDDEN);
        }
    }

    private static GrainShift lostShip() {
        GrainShift x = Checks.loaded("r2,w1", "c2,h10", "f10,t1");
        x.set(0, 1);
        x.set(1, 99);
        x.roll(0);
        c.same("lost", x.about(3), 1);
        return x;
    }

    private static void goes() {
        GrainShift x = Checks.loaded("r2,w1", "c2,h10", "f10,t1");
        x.set(0, 1);
        // Slope 5: one goes (4 6, LEAN 2); slope 2 less 5: D -50: one back (5 5); D -30: none. LEAN 0.
        c.same("to greater", x.goes(5, 0), 1);
        c.same("to lesser", x.goes(5, 1), 1);
        c.same("LEAN", x.goes(5, 2), 0);
        c.same("to greater", x.goes(3, 0), 0);
        c.row("she is as she was", x, 0, "5 5");
        c.same("TICKS", x.about(1), 0);
        c.same("SHAKEN", x.hold(0, 3), 0);
        for (int bad : new int[] {-1, 41, Integer.MAX_VALUE}) {
            c.same("no such a", x.goes(bad, 0), Checks.HIDDEN);
        }
        c.same("no such what", x.goes(5, 3), Checks.HIDDEN);
        c.same("no such what", x.goes(5, -1), Checks.HIDDEN);
        c.same("a 0", x.goes(0, 0), 0);
        c.same("a 40", x.goes(40, 0), 5);
    }

    private static void least() {
        GrainShift x = Checks.loaded("r2,w1", "c2,h10", "f10,t1");
        c.same("LEAST", x.least(), 4);
        c.same("full", Checks.loaded("r2", "c2,h10", "f20,t1").least(), -1);
        c.same("empty", Checks.loaded("r2", "c2,h10", "f0").least(), -1);
        c.same("29 of REST and SACKS", Checks.loaded("r20", "c2,h10", "f10,t1,k3").least(), 31);
        c.same("soup by the roll itself", Checks.loaded("r20,m30,l89", "c2,h10", "f10,t1,k3").least(), 3);
        GrainShift y = Checks.loaded("r1,w1", "c2,h10", "f10,t1");
        y.set(0, 1);
        y.set(1, 1);
        c.same("LEAN 10 alone", y.least(), 0);
        c.row("she is as she was", y, 0, "5 5");
        // The right column is full, LEAN 10 keeps the left from it: slope -30 and 10 of TALL are just enough.
        GrainShift z = Checks.loaded("r20", "c2,h10", "f20,t1,k3");
        z.take(0, 0, 1);
        z.set(0, 10);
        z.set(1, 10);
        c.same("40", z.least(), 40);
        z.set(1, 11);
        c.same("41 would", z.least(), -1);
    }

    private static void runs() {
        GrainShift x = Checks.loaded("r2,w1", "c2,h10", "f10,t1");
        c.same("none goes: it counts", x.runs(3, 1), 1);
        c.same("not lost", x.runs(3, 0), 0);
        c.same("for ever", x.runs(5, 1), 40);
        c.same("not lost", x.runs(5, 0), 0);
        x.set(0, 1);
        x.set(1, 1);
        x.set(2, 10);
        // LEAN 10 and 0: D 100: 4 go: 1 9 (LEAN 18): D 100; slope 18: D 100.. all: lost at once.
        c.same("lost", x.runs(0, 0), 1);
        c.same("rolls", x.runs(0, 1), 1);
        c.same("LEAN then", x.runs(0, 2), 20);
        c.same("no such what", x.runs(0, 3), Checks.HIDDEN);
        c.same("no such what", x.runs(0, -1), Checks.HIDDEN);
        c.same("no such a", x.runs(41, 0), Checks.HIDDEN);
        c.same("no such a", x.runs(-1, 0), Checks.HIDDEN);
        c.row("she is as she was", x, 0, "5 5");
        c.same("not lost herself", x.about(3), 0);
    }

    private static void ballast() {
        GrainShift x = Checks.loaded("r20,w9", "c2,h20", "f20,t1");
        x.set(0, 1);
        x.set(2, 60);
        c.same("level: 0", x.ballast(0), 0);
        x.take(0, 0, 9);
        // 1 10, MOMENT 81: of BALLAST -99 LEAN is -909, of 0 81, of 1 91: 0 is best.
        c.same("0", x.ballast(0), 0);
        GrainShift y = Checks.loaded("r20,w9", "c12,h40", "f480,t1,k3");
        y.set(0, 10);
        y.set(2, 60);
        y.set(1, 5);
        for (int k = 0; k < 3; k++) {
            y.take(0, 0, 40);
        }
        // 40 of WEIGHT 9 less at -11: MOMENT 3,960, LEAN 396: BALLAST -399 leaves -3; grain has no room but left.
        c.same("she holds", y.column(0, 0, 0) < 40 ? 1 : 0, 1);
        int best = y.ballast(0);
        c.same("one of those told", best == 0 || (best + 999) % 100 == 0 ? 1 : 0, 1);
        c.same("it is set as before", y.count(5), 5);
        c.same("no such a", y.ballast(41), Checks.HIDDEN);
        c.same("no such a", y.ballast(-1), Checks.HIDDEN);
        // No grain: LEAN is 10 times BALLAST by STIFF; with 9,999 all are 0: the nearest to 0.
        GrainShift z = Checks.loaded("r20", "c2,h20", "f0");
        z.set(0, 9999);
        c.same("all alike", z.ballast(40), 0);
        // One unit of WEIGHT 9 at 11 in each of four holds: MOMENT 396: BALLAST 0 LEAN 39, 1 40, -99 (-59).
        GrainShift w = new GrainShift();
        Checks.tell(w, 0, "r20,w9");
        Checks.tell(w, 1, "c12,h40;c12,h40;c12,h40;c12,h40");
        Checks.tell(w, 2, "f0;f0;f0;f0");
        w.load(0, 0, 0);
        w.set(0, 10);
        w.set(2, 60);
        for (int hold = 0; hold < 4; hold++) {
            w.pour(hold, 11, 2);
        }
        c.same("MOMENTS", w.about(5), 792);
        // -99: (792 less 990) by 10 is -19; 0: 79.
        c.same("-99", w.ballast(0), -99);
        c.same("as set", w.count(5), 0);
        c.same("two there still", w.column(3, 11, 0), 2);
    }

    /** By hand: her image, each BALLAST, three rolls. */
    private static void ballastByRolls() {
        // Chosen so that by 23 and 25 two, three and four rolls would each tell another BALLAST.
        GrainShift x = Checks.loaded("r6,w8,m3,l189", "c11,h26", "f86,t1");
        x.take(0, 1, 5);
        x.set(0, 254);
        x.set(2, 60);
        x.set(1, 7);
        for (int a = 0; a <= 40; a++) {
            int said = x.ballast(a);
            x.image();
            int best = 0;
            int least = byRolls(x, 0, a);
            for (int b = -999; b <= 901; b += 100) {
                int lean = byRolls(x, b, a);
                if (lean < least) {
                    least = lean;
                    best = b;
                } else if (lean == least && Math.abs(b) < Math.abs(best)) {
                    best = b;
                }
            }
            x.set(1, 7);
            c.same("ballast(" + a + ")", said, best);
        }
    }

    private static int byRolls(GrainShift x, int ballast, int a) {
        x.set(1, ballast);
        for (int k = 0; k < 3; k++) {
            x.roll(a);
        }
        int lean = Math.abs(x.about(0));
        x.back();
        return lean;
    }

    private static void courses() {
        GrainShift x = new GrainShift();
        int[][] bad = {{-1, 1}, {31, 1}, {0, 0}, {0, 10}, {Integer.MIN_VALUE, 5}, {5, Integer.MAX_VALUE}};
        for (int[] b : bad) {
            c.same("out of bounds", x.course(b[0], b[1]), -1);
        }
        c.same("none", x.count(7), 0);
        for (int k = 0; k < 6; k++) {
            c.same("course", x.course(k % 2 == 0 ? 0 : 30, k % 2 == 0 ? 1 : 9), k);
        }
        c.same("six are there", x.course(0, 1), -1);
        c.same("six", x.count(7), 6);
    }

    private static void best() {
        GrainShift x = Checks.loaded("r20,w1", "c2,h10", "f0");
        c.same("no courses", x.best(0), Checks.HIDDEN);
        x.course(5, 3);
        x.course(0, 1);
        c.same("of several the lowest", x.best(0), 0);
        c.same("LEAN", x.best(1), 0);
        c.same("no such what", x.best(2), Checks.HIDDEN);
        c.same("no such what", x.best(-1), Checks.HIDDEN);
        x.set(0, 100);
        x.set(1, -100);
        c.same("LEAN has its sign", x.best(1), -10);
        x.set(2, 10);
        c.same("all lost", x.best(0), Checks.HIDDEN);
        c.same("all lost", x.best(1), Checks.HIDDEN);
        c.same("she is not", x.about(3), 0);
        c.same("no DAYS of hers", x.about(2), 0);
        // REST 10: a sea of 30 sends all over and back, to the left in the end; a sea of 0 leaves her.
        GrainShift y = Checks.loaded("r10,w1", "c2,h20", "f20,t1");
        y.set(0, 2);
        y.set(2, 60);
        y.course(30, 1);
        y.course(0, 9);
        c.same("the calm one", y.best(0), 1);
        c.same("LEAN", y.best(1), 0);
        y.set(2, 5);
        c.same("the other is lost", y.best(0), 1);
    }
}
