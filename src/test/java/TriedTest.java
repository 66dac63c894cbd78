/** Part 3 and promises 16 to 21: what is tried from her as she is. */
public final class TriedTest {
    private static final Checks c = new Checks();

    public static void main(String[] args) {
        goes();
        goesInAllHolds();
        least();
        runs();
        runsUntilLost();
        ballastAtTheEnds();
        ballastTies();
        ballastByRolls();
        courses();
        best();
        bestIsNotLost();
        c.finish();
    }

    private static void goes() {
        GrainShift x = Checks.loaded("r2,w1", "c2,h10", "f10,t1");
        x.set(0, 1);
        c.promise(16, "GOES: to greater numbers (what 0), to lesser ones (1), LEAN behind it (2).");
        // Slope 5: one goes (4 6, LEAN 2); slope 2 less 5: D -50: one back (5 5); D -30: none. LEAN 0.
        c.same("to greater", x.goes(5, 0), 1);
        c.same("to lesser", x.goes(5, 1), 1);
        c.same("LEAN", x.goes(5, 2), 0);
        c.same("by 3 none", x.goes(3, 0), 0);
        c.same("a 0", x.goes(0, 0), 0);
        // Slope 40: all five go (0 10, LEAN 10); slope -30: D -400: all ten back (10 0, LEAN -10).
        c.same("a 40", x.goes(40, 0), 5);
        c.same("a 40", x.goes(40, 1), 10);
        c.same("a 40", x.goes(40, 2), -10);
        c.promise(16, "HIDDEN: not loaded, LOST, no such ones.");
        for (int[] b : new int[][] {{-1, 0}, {41, 0}, {Integer.MAX_VALUE, 0}, {Integer.MIN_VALUE, 0}, {5, 3}, {5, -1}}) {
            c.same("goes(" + b[0] + ", " + b[1] + ")", x.goes(b[0], b[1]), Checks.HIDDEN);
        }
        for (int what = 0; what < 3; what++) {
            c.same("not loaded", new GrainShift().goes(5, what), Checks.HIDDEN);
            c.same("LOST", Checks.lost().goes(5, what), Checks.HIDDEN);
        }
    }

    private static void goesInAllHolds() {
        c.part(3, "TRIED, from her as she is, apart from it: GOES by a ROLL by a: UNITS that go to greater numbers, to lesser ones, in all holds and sweeps of the ROLL; LEAN behind it.");
        // Each hold: 5 5, 4 6 by slope 5, then 6 4 by -5; 10 10 10, 9 10 11 by 3, then 11 10 9 by -3 in two sweeps.
        GrainShift x = Checks.loaded("r2,w1", "c2,h10;c2,h10", "f10,t1;f10,t1");
        c.same("to greater", x.goes(5, 0), 2);
        c.same("to lesser", x.goes(5, 1), 4);
        x.set(0, 4);
        c.same("LEAN behind it", x.goes(5, 2), -1);
        GrainShift y = Checks.loaded("r1,w3", "c3,h20", "f30,t1");
        c.same("to greater", y.goes(3, 0), 2);
        c.same("to lesser, in all sweeps", y.goes(3, 1), 4);
        c.row("apart from it", y, 0, "10 10 10");
        c.same("TICKS", y.about(1), 0);
        c.same("SHAKEN", y.hold(0, 3), 0);
        y.roll(3);
        c.same("as she is: from 11 10 9", y.goes(3, 0) + y.goes(3, 1), y.roll(3));
        GrainShift z = Checks.loaded("r20,m1,l10", "c2,h10", "f10,t1");
        z.roll(8);
        c.same("SHAKEN 10 is no soup", z.goes(2, 0), 0);
        c.same("SHAKEN 11 is", z.goes(3, 0), 1);
    }

    private static void least() {
        c.part(3, "LEAST: the least a (0 .. 40) by which any goes.");
        c.same("4", Checks.loaded("r2,w1", "c2,h10", "f10,t1").least(), 4);
        c.same("29 of REST and SACKS", Checks.loaded("r20", "c2,h10", "f10,t1,k3").least(), 31);
        c.same("soup by the roll itself", Checks.loaded("r20,m30,l89", "c2,h10", "f10,t1,k3").least(), 3);
        GrainShift y = Checks.loaded("r1,w1", "c2,h10", "f10,t1");
        y.set(0, 1);
        y.set(1, 1);
        c.same("0: LEAN 10 alone", y.least(), 0);
        c.row("apart from it", y, 0, "5 5");
        // The right column is full, LEAN 10 keeps the left from it: slope -30 and 10 of TALL are just enough.
        GrainShift z = Checks.loaded("r20", "c2,h10", "f20,t1,k3");
        z.take(0, 0, 1);
        z.set(0, 10);
        z.set(1, 10);
        c.same("40", z.least(), 40);
        c.promise(17, "LEAST. NONE: none to 40, not loaded, LOST.");
        z.set(1, 11);
        c.same("41 would", z.least(), -1);
        c.same("full", Checks.loaded("r2", "c2,h10", "f20,t1").least(), -1);
        c.same("empty", Checks.loaded("r2", "c2,h10", "f0").least(), -1);
        c.same("not loaded", new GrainShift().least(), -1);
        GrainShift lost = Checks.loaded("r0", "c2,h10", "f10,t1");
        lost.set(0, 1);
        lost.set(1, 99);
        lost.roll(0);
        c.same("LOST", lost.least(), -1);
    }

    /** 5 5 with LEAN 5; by 1: 3 7 with 7, 2 8 with 8, 1 9 with 9, and then none goes. */
    private static GrainShift leaning(int limit) {
        GrainShift x = Checks.loaded("r1,w1", "c2,h10", "f10,t1");
        x.set(0, 2);
        x.set(1, 1);
        x.set(2, limit);
        return x;
    }

    private static void runsAs(GrainShift x, int a, int lost, int rolls, int lean) {
        c.same("LOST", x.runs(a, 0), lost);
        c.same("ROLLS", x.runs(a, 1), rolls);
        c.same("LEAN", x.runs(a, 2), lean);
    }

    private static void runs() {
        c.part(3, "RUNS ON by a: ROLLS by a, one behind the other, till one in which none goes (it counts),");
        runsAs(Checks.loaded("r2,w1", "c2,h10", "f10,t1"), 3, 0, 1, 0);
        runsAs(leaning(25), 1, 0, 4, 9);
        runsAs(leaning(10), 1, 0, 4, 9);
        c.part(3, "or 40 were: LOST, how many ROLLS, LEAN then.");
        GrainShift x = Checks.loaded("r2,w1", "c2,h10", "f10,t1");
        x.set(0, 2);
        // 4 6, LEAN 1, then slope -4: D -60: 2 go: 6 4; from then on to and fro.
        runsAs(x, 5, 0, 40, -1);
        c.row("apart from it", x, 0, "5 5");
    }

    private static void runsUntilLost() {
        c.part(3, "she is LOST,");
        runsAs(leaning(9), 1, 1, 3, 9);
        runsAs(leaning(8), 1, 1, 2, 8);
        runsAs(leaning(7), 1, 1, 1, 7);
        runsAs(leaning(1), 1, 1, 1, 7);
        c.same("not lost herself", leaning(1).about(3), 0);
        c.promise(18, "RUNS ON: LOST (what 0; 1, 0), how many ROLLS (1), LEAN (2).");
        // All goes over by 40, to and fro.
        runsAs(leaning(60), 40, 0, 40, 0);
        runsAs(leaning(60), 0, 0, 2, 8);
        c.promise(18, "HIDDEN: not loaded, LOST, no such ones.");
        GrainShift x = leaning(25);
        for (int[] b : new int[][] {{-1, 0}, {41, 0}, {Integer.MIN_VALUE, 0}, {Integer.MAX_VALUE, 0}, {0, 3}, {0, -1}}) {
            c.same("runs(" + b[0] + ", " + b[1] + ")", x.runs(b[0], b[1]), Checks.HIDDEN);
        }
        for (int what = 0; what < 3; what++) {
            c.same("not loaded", new GrainShift().runs(5, what), Checks.HIDDEN);
            c.same("LOST", Checks.lost().runs(5, what), Checks.HIDDEN);
        }
    }

    /** In four holds 30 of WEIGHT 9 in one column at the side, MOMENTS 11,880; SACKS hold them there by any SLOPE. */
    private static GrainShift heavy(int column) {
        GrainShift x = Checks.loaded("r20,w9", "c12,h40;c12,h40;c12,h40;c12,h40", "f0,k3;f0,k3;f0,k3;f0,k3");
        x.set(0, 9999);
        for (int hold = 0; hold < 4; hold++) {
            x.pour(hold, column, 30);
        }
        c.same("MOMENTS", Math.abs(x.about(5)), 11880);
        x.set(0, 1);
        x.set(1, 7);
        return x;
    }

    private static void ballastAtTheEnds() {
        c.part(3, "BALLAST BEST by a: of -999, -899 .. 901 (each 100 more) and 0 the one with which LEAN (without sign) behind three ROLLS by a is least");
        c.same("the lowest", heavy(11).ballast(0), -999);
        c.same("the highest", heavy(0).ballast(0), 901);
        c.same("BALLAST is as it was", heavy(0).count(5), 7);
        GrainShift x = Checks.calm();
        x.set(0, 10);
        c.same("0", x.ballast(0), 0);
        c.same("0", x.ballast(40), 0);
        // MOMENT 99 times 10 of WEIGHT 9 in column 11 of 12: 10 of them: -99 is just enough.
        GrainShift y = Checks.loaded("r20,w9", "c12,h40", "f0,k3");
        y.pour(0, 11, 10);
        y.set(0, 1);
        c.same("-99", y.ballast(0), -99);
        c.promise(19, "BALLAST BEST. HIDDEN: not loaded, LOST, no such a.");
        for (int a : new int[] {-1, 41, Integer.MIN_VALUE, Integer.MAX_VALUE}) {
            c.same("ballast(" + a + ")", x.ballast(a), Checks.HIDDEN);
        }
        c.same("not loaded", new GrainShift().ballast(1), Checks.HIDDEN);
        c.same("LOST", Checks.lost().ballast(1), Checks.HIDDEN);
    }

    private static void ballastTies() {
        c.part(3, "(of several the one nearer 0, then the lower; LOST, she rolls no more).");
        GrainShift x = Checks.calm();
        x.set(0, 9999);
        c.same("all alike", x.ballast(40), 0);
        // MOMENT 2,376: with 0 and 1 LEAN is 1, with -99 .. -399 it is 0.
        GrainShift y = Checks.loaded("r20,w9", "c12,h40", "f0,k3");
        y.pour(0, 11, 24);
        y.set(0, 2370);
        c.same("the nearest below 0", y.ballast(0), -99);
        // MOMENT -2,376: with 0 LEAN is -1, with 1 .. 401 it is 0.
        GrainShift z = Checks.loaded("r20,w9", "c12,h40", "f0,k3");
        z.pour(0, 0, 24);
        z.set(0, 2370);
        c.same("the nearest above 0", z.ballast(0), 1);
    }

    /** By hand: her image, each BALLAST, three rolls (a lost ship refuses them). */
    private static void ballastByRolls() {
        c.part(3, "(of several the one nearer 0, then the lower; LOST, she rolls no more).");
        for (int limit : new int[] {60, 12}) {
            for (int a = 0; a <= 40; a++) {
                // Chosen so that by 23 and 25 two, three and four rolls would each tell another BALLAST.
                GrainShift x = Checks.loaded("r6,w8,m3,l189", "c11,h26", "f86,t1");
                x.take(0, 1, 5);
                x.set(0, 254);
                x.set(2, limit);
                x.image();
                int best = 0;
                int least = byRolls(x, 0, a);
                for (int b = -999; b <= 901; b += 100) {
                    int lean = byRolls(x, b, a);
                    if (lean < least || lean == least && Math.abs(b) < Math.abs(best)) {
                        least = lean;
                        best = b;
                    }
                }
                c.same("ballast(" + a + ")", x.ballast(a), best);
            }
        }
    }

    private static int byRolls(GrainShift x, int ballast, int a) {
        x.set(1, ballast);
        for (int k = 0; k < 3; k++) {
            x.roll(a);
        }
        int lean = Math.abs(x.about(0));
        x.back();
        return lean;
    }

    private static void courses() {
        c.part(3, "COURSES (6 at most): a SEA and DAYS (1 .. 9):");
        GrainShift x = new GrainShift();
        c.promise(20, "A COURSE: its number.");
        for (int k = 0; k < 6; k++) {
            c.same("course", x.course(k % 2 == 0 ? 0 : 30, k % 3 == 0 ? 1 : 9), k);
        }
        c.promise(20, "NONE: out of bounds, there are six.");
        c.same("six are there", x.course(0, 1), -1);
        c.same("six", x.count(7), 6);
        GrainShift y = new GrainShift();
        for (int[] b : new int[][] {{-1, 1}, {31, 1}, {0, 0}, {0, 10}, {30, 0}, {30, 10}, {31, 9}, {-1, 9},
            {Integer.MIN_VALUE, 5}, {5, Integer.MAX_VALUE}}) {
            c.same("course(" + b[0] + ", " + b[1] + ")", y.course(b[0], b[1]), -1);
        }
        c.same("none", y.count(7), 0);
    }

    private static void best() {
        c.part(3, "BEST: the COURSE behind which, run from as she is, she is not LOST and LEAN (without sign) is least (of several the lowest).");
        GrainShift x = Checks.calm();
        x.course(5, 3);
        x.course(0, 1);
        c.promise(21, "BEST: the COURSE (0), LEAN (1).");
        c.same("of several the lowest", x.best(0), 0);
        c.same("LEAN", x.best(1), 0);
        x.set(0, 100);
        x.set(1, -100);
        c.same("LEAN has its sign", x.best(1), -10);
        // REST 10: a sea of 30 sends all over and back, to the left in the end; a sea of 0 leaves her.
        GrainShift y = Checks.loaded("r10,w1", "c2,h20", "f20,t1");
        y.set(0, 2);
        y.set(2, 60);
        y.course(30, 1);
        y.course(0, 9);
        y.course(0, 1);
        c.same("the calm one, the first of two", y.best(0), 1);
        c.same("LEAN", y.best(1), 0);
        sixCourses();
    }

    /** Each course by hand: back to the image, so many days. */
    private static void sixCourses() {
        GrainShift x = Checks.loaded("r4,s5,m1,l150,w5", "c5,h20", "f60");
        x.set(0, 40);
        x.day(9);
        int[][] courses = {{9, 9}, {8, 2}, {12, 4}, {5, 7}, {20, 1}, {6, 6}};
        for (int[] k : courses) {
            x.course(k[0], k[1]);
        }
        int said = x.best(0);
        int lean = x.best(1);
        x.image();
        int best = -1;
        int least = 1000;
        for (int k = 0; k < 6; k++) {
            for (int day = 0; day < courses[k][1]; day++) {
                x.day(courses[k][0]);
            }
            if (x.about(3) == 0 && Math.abs(x.about(0)) < Math.abs(least)) {
                best = k;
                least = x.about(0);
            }
            x.back();
        }
        c.same("best of six", said, best);
        c.same("LEAN of the best", lean, least);
    }

    private static void bestIsNotLost() {
        c.promise(21, "HIDDEN: none, not loaded, LOST, no such what.");
        GrainShift x = Checks.calm();
        c.same("no COURSES", x.best(0), Checks.HIDDEN);
        c.same("no COURSES", x.best(1), Checks.HIDDEN);
        x.course(5, 3);
        for (int what : new int[] {-1, 2, Integer.MIN_VALUE, Integer.MAX_VALUE}) {
            c.same("best(" + what + ")", x.best(what), Checks.HIDDEN);
        }
        x.set(0, 10);
        x.set(1, 24);
        c.same("24 is not LOST", x.best(1), 24);
        x.set(1, 25);
        c.same("all are LOST", x.best(0), Checks.HIDDEN);
        c.same("all are LOST", x.best(1), Checks.HIDDEN);
        c.same("she is not", x.about(3), 0);
        c.same("no DAYS of hers", x.about(2), 0);
        GrainShift none = new GrainShift();
        none.course(1, 1);
        c.same("not loaded", none.best(0), Checks.HIDDEN);
        GrainShift lost = Checks.lost();
        lost.course(1, 1);
        c.same("LOST", lost.best(0), Checks.HIDDEN);
        // The second is LOST behind three days, the first behind one is not.
        GrainShift y = Checks.loaded("r20,m1,l100,w9", "c2,h20", "f20,t1");
        y.set(0, 9);
        y.set(1, 4);
        y.set(2, 10);
        y.course(10, 9);
        y.course(10, 1);
        c.same("the one that is not LOST", y.best(0), 1);
    }
}
