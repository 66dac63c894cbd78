import java.util.Arrays;

/** Part 6 to SLIDE, IMAGES of part 7, and promises 32 to 40: hands at the grain, heeling, tilting, ripening, sliding. */
public final class HandsTest {
    private static final Checks c = new Checks();

    public static void main(String[] args) {
        images();
        imageOfTheLost();
        imageOfAnotherShip();
        imageKeepsDraws();
        notWhenLost();
        trim();
        trimNinetyNine();
        pour();
        pourOnASlope();
        take();
        heel();
        heelOfTwoHolds();
        heelUntilLost();
        tilt();
        ripens();
        slide();
        c.finish();
    }

    private static void images() {
        c.part(7, "An IMAGE keeps her as she is (UNITS, SETTLED, SHAKEN, TICKS, DAYS, LOST, draws);");
        GrainShift x = Checks.loaded("r0,s9,w1", "c2,h10", "f10,t1");
        x.set(0, 2);
        x.day(3);
        int lean = x.about(0);
        String row = Checks.row(x, 0);
        int shaken = x.hold(0, 3);
        c.promise(32, "An IMAGE (instead of the one ahead): TICKS.");
        c.same("image", x.image(), 4);
        x.set(1, 500);
        x.day(3);
        c.same("lost", x.about(3), 1);
        c.part(7, "BACK: she is so again.");
        c.promise(33, "BACK: TICKS.");
        c.same("back", x.back(), 4);
        c.same("not LOST", x.about(3), 0);
        c.row("UNITS", x, 0, row);
        c.same("SHAKEN", x.hold(0, 3), shaken);
        c.same("SETTLED", x.hold(0, 2), 1);
        c.same("TICKS", x.about(1), 4);
        c.same("DAYS", x.about(2), 1);
        c.same("BALLAST is not hers", x.count(5), 500);
        x.set(1, 0);
        c.same("LEAN", x.about(0), lean);
        x.roll(1);
        c.same("back again", x.back(), 4);
        x.roll(1);
        c.promise(32, "An IMAGE (instead of the one ahead): TICKS.");
        c.same("image", x.image(), 5);
        x.roll(1);
        c.same("back to that", x.back(), 5);
        c.promise(32, "NONE: not loaded.");
        c.same("image", new GrainShift().image(), -1);
        c.promise(33, "NONE: no IMAGE.");
        c.same("back", new GrainShift().back(), -1);
        GrainShift y = Checks.loaded("r0", "c2,h10", "f10,t1");
        y.roll(3);
        c.same("loaded, no IMAGE", y.back(), -1);
        c.same("as she was", y.about(1), 1);
    }

    private static void imageOfTheLost() {
        c.part(7, "An IMAGE keeps her as she is (UNITS, SETTLED, SHAKEN, TICKS, DAYS, LOST, draws);");
        GrainShift x = Checks.lost();
        c.same("image of the LOST", x.image(), 1);
        x.load(0, 0, 0);
        c.same("not LOST", x.about(3), 0);
        c.same("back", x.back(), 1);
        c.same("LOST again", x.about(3), 1);
        c.same("no ROLL", x.roll(0), -1);
    }

    private static void imageOfAnotherShip() {
        c.part(7, "BACK: she is so again.");
        GrainShift x = new GrainShift();
        Checks.tell(x, 0, "r3,w4");
        Checks.tell(x, 0, "r7,w1");
        Checks.tell(x, 1, "c2,h10;c3,h9");
        Checks.tell(x, 1, "c4,h8");
        Checks.tell(x, 2, "f6,t1,k1;f2,t1");
        Checks.tell(x, 2, "g1,f5,t1");
        x.load(0, 0, 1);
        c.same("image", x.image(), 0);
        x.load(1, 1, 1);
        x.roll(1);
        c.same("holds", x.about(4), 1);
        c.same("HOLDS FAST", x.hold(0, 5), 70);
        c.same("back", x.back(), 0);
        c.same("holds", x.about(4), 2);
        c.same("HOLDS FAST", x.hold(0, 5), 60);
        c.same("GAP", x.hold(0, 6), 70);
        c.row("0", x, 0, "3 3");
        c.row("1", x, 1, "1 1 0");
        c.no("refused", x.load(0, 1, 1));
        c.same("the image is there yet", x.back(), 0);
    }

    private static void imageKeepsDraws() {
        c.part(7, "BACK: she is so again.");
        GrainShift y = Checks.loaded("r9,s2,m1,l30,w3", "c2,h10", "f10,t1");
        y.image();
        y.day(0);
        y.back();
        Checks.days(y, 5);
        c.same("it settles as it did", y.hold(0, 2), 2);
        c.same("its LINE is as it was", y.ripens(0, 1), 0);
        GrainShift x = Checks.calm();
        x.day(0);
        x.image();
        x.day(0);
        x.day(0);
        int shaken = x.hold(0, 3);
        x.back();
        x.day(0);
        x.day(0);
        c.same("the same draws", x.hold(0, 3), shaken);
    }

    private static void notWhenLost() {
        c.part(6, "Of her as she is (not when she is LOST):");
        GrainShift x = Checks.loaded("r20,w1", "c2,h20", "f20,t1");
        x.take(0, 0, 5);
        c.row("as she is", x, 0, "5 10");
        x.set(0, 1);
        x.set(1, 5);
        x.set(2, 1);
        x.image();
        // LEAN 55: D -50 and 550 sends all over, there and then by any of these.
        x.heel(0);
        c.same("LOST", x.about(3), 1);
        c.row("all went", x, 0, "0 15");
        c.same("trim", x.trim(0, 1), -1);
        c.same("pour", x.pour(0, 0, 1), -1);
        c.same("take", x.take(0, 1, 1), -1);
        c.same("heel", x.heel(-40), -1);
        c.row("nothing went", x, 0, "0 15");
        x.back();
        c.same("not LOST", x.trim(0, 1), 1);
    }

    private static void trim() {
        c.part(6, "TRIM: so many (1 .. 99) times 1 UNIT goes from the COLUMN of a hold with the most UNITS to that with the fewest (of several the lowest),");
        GrainShift x = Checks.loaded("r20", "c4,h10", "f10");
        c.promise(34, "TRIM.");
        c.row("poured", x, 0, "0 5 5 0");
        c.same("once", x.trim(0, 1), 1);
        c.row("of several the lowest", x, 0, "1 4 5 0");
        c.same("twice", x.trim(0, 2), 2);
        c.row("1 4 4 1, then 2 3 4 1", x, 0, "2 3 4 1");
        c.part(6, "as long as these differ by 2 or more: how many times.");
        c.same("till they differ by less", x.trim(0, 99), 1);
        c.row("3 and 2 differ by 1", x, 0, "2 3 3 2");
        c.same("none", x.trim(0, 99), 0);
        c.same("no TICKS", x.about(1), 0);
        c.promise(34, "NONE: no such ones, not loaded, LOST.");
        for (int[] b : new int[][] {{1, 1}, {-1, 1}, {0, 0}, {0, 100}, {0, -1}, {0, Integer.MAX_VALUE},
            {Integer.MIN_VALUE, 1}}) {
            c.same("trim(" + b[0] + ", " + b[1] + ")", x.trim(b[0], b[1]), -1);
        }
        c.same("not loaded", new GrainShift().trim(0, 1), -1);
        c.same("LOST", Checks.lost().trim(0, 1), -1);
        GrainShift y = Checks.loaded("r20", "c2,h10;c2,h10", "f10,t1,b9;f6,t1");
        y.take(0, 0, 4);
        y.take(1, 1, 2);
        c.same("boards don't matter", y.trim(0, 5), 2);
        c.row("boards don't matter", y, 0, "3 3");
        c.row("another hold stays", y, 1, "3 1");
        c.same("the last hold", y.trim(1, 1), 1);
        c.same("empty", Checks.calm().trim(0, 99), 0);
        // Behind it nothing goes to REST: REST 0 and a LEAN of 25 would send all over.
        GrainShift z = Checks.loaded("r20,m30,l0,w1", "c2,h10", "f10,t1,k3");
        z.roll(0);
        z.take(0, 0, 4);
        z.set(0, 1);
        z.set(1, 2);
        c.same("trim", z.trim(0, 1), 1);
        c.row("nothing goes to REST", z, 0, "2 4");
    }

    private static void trimNinetyNine() {
        c.part(6, "TRIM: so many (1 .. 99) times 1 UNIT goes from the COLUMN of a hold with the most UNITS to that with the fewest (of several the lowest),");
        GrainShift x = Checks.loaded("r20", "c12,h40", "f230,k3");
        int[] u = Arrays.stream(Checks.row(x, 0).split(" ")).mapToInt(Integer::parseInt).toArray();
        int all = levelled(u.clone(), 1000);
        c.yes("more than 99 would go", all > 99);
        c.same("99", x.trim(0, 99), 99);
        levelled(u, 99);
        c.row("99", x, 0, Arrays.toString(u).replaceAll("[\\[\\],]", ""));
        c.same("the rest", x.trim(0, 99), all - 99);
        c.same("none", x.trim(0, 1), 0);
    }

    private static int levelled(int[] u, int times) {
        for (int done = 0; done < times; done++) {
            int most = 0;
            int fewest = 0;
            for (int i = 0; i < u.length; i++) {
                most = u[i] > u[most] ? i : most;
                fewest = u[i] < u[fewest] ? i : fewest;
            }
            if (u[most] - u[fewest] < 2) {
                return done;
            }
            u[most]--;
            u[fewest]++;
        }
        return times;
    }

    private static void pour() {
        c.part(6, "POUR: UNITS (1 .. 99) come one by one onto a COLUMN, if it has room ((5); else no more come),");
        GrainShift x = Checks.loaded("r20", "c2,h10", "f10,t1");
        c.promise(35, "POUR.");
        c.same("one", x.pour(0, 0, 1), 1);
        c.row("one", x, 0, "6 5");
        c.same("to the top", x.pour(0, 0, 99), 4);
        c.row("to the top", x, 0, "10 5");
        c.same("no room", x.pour(0, 0, 5), 0);
        c.same("just to the top", x.pour(0, 1, 5), 5);
        c.row("full", x, 0, "10 10");
        c.promise(35, "NONE likewise.");
        for (int[] b : new int[][] {{1, 0, 1}, {-1, 0, 1}, {0, 2, 1}, {0, -1, 1}, {0, 0, 0}, {0, 0, 100}, {0, 0, -1},
            {0, 0, Integer.MAX_VALUE}, {Integer.MAX_VALUE, 0, 1}, {0, Integer.MIN_VALUE, 1}}) {
            c.same("pour(" + b[0] + ", " + b[1] + ", " + b[2] + ")", x.pour(b[0], b[1], b[2]), -1);
        }
        c.same("not loaded", new GrainShift().pour(0, 0, 1), -1);
        c.same("LOST", Checks.lost().pour(0, 0, 1), -1);
        c.part(6, "if it has room ((5); else no more come),");
        c.same("99 of 99", Checks.loaded("r0", "c12,h40", "f0").pour(0, 5, 99), 99);
        // SETTLED 30: 14 are 98 of 100.
        GrainShift z = Checks.loaded("r20,s30", "c2,h10", "f20,t1,k3");
        Checks.days(z, 30);
        c.same("room by TALL", z.pour(0, 1, 9), 4);
        c.same("more than COLUMNS times HEIGHT", z.pour(0, 0, 9) + z.hold(0, 0), 32);
    }

    private static void pourOnASlope() {
        c.part(6, "the hold going to REST with SLOPE LEAN (of then) behind each: how many came.");
        GrainShift y = Checks.loaded("r0", "c3,h9", "f0");
        c.same("each goes to rest", y.pour(0, 0, 4), 4);
        c.row("each goes to rest", y, 0, "2 1 1");
        // LEAN 1 ahead of it would make D 20; with it on the left LEAN is 0, D 10, and it stays.
        GrainShift x = Checks.loaded("r0,w9", "c2,h10", "f0");
        x.set(0, 9);
        x.set(1, 1);
        c.same("pour", x.pour(0, 0, 1), 1);
        c.row("LEAN of then", x, 0, "1 0");
        // On the right: MOMENT 9, LEAN -81, held -60: D -10 -600: (610 - 200) by 20: all there is goes left.
        GrainShift z = Checks.loaded("r20,w9", "c2,h10", "f0");
        z.set(0, 1);
        z.set(1, -9);
        c.same("pour", z.pour(0, 1, 1), 1);
        c.row("it slid over", z, 0, "1 0");
        c.same("LEAN", z.about(0), -99);
        c.same("not LOST behind it", z.about(3), 0);
        c.same("no TICK", z.about(1), 0);
        // FAST 290, LEAN 699, held 60: 21 20, D 610: 16 go; then 5 36: D 290: none.
        GrainShift w = Checks.loaded("r20,w1", "c2,h40", "f40,t1,k3");
        w.set(0, 1);
        w.set(1, 70);
        c.same("pour", w.pour(0, 0, 1), 1);
        c.row("SLOPE held within 60", w, 0, "5 36");
        // Only that hold goes to REST: the other has REST 0 and would go by a LEAN of 20.
        GrainShift v = Checks.loaded("r0,w1", "c2,h10;c2,h10", "f0;f10,t1");
        v.set(0, 1);
        v.set(1, 2);
        v.pour(0, 1, 1);
        c.row("another hold stays", v, 1, "5 5");
    }

    private static void take() {
        c.part(6, "TAKE: UNITS go from a COLUMN, as many as are there of so many,");
        GrainShift x = Checks.loaded("r20", "c2,h10", "f10,t1");
        c.promise(36, "TAKE: how many were taken.");
        c.same("some", x.take(0, 0, 2), 2);
        c.row("some", x, 0, "3 5");
        c.same("as many as are there", x.take(0, 0, 99), 3);
        c.same("none there", x.take(0, 0, 1), 0);
        c.row("none there", x, 0, "0 5");
        c.same("just as many", x.take(0, 1, 5), 5);
        c.row("empty", x, 0, "0 0");
        c.promise(36, "NONE likewise.");
        x.pour(0, 1, 5);
        for (int[] b : new int[][] {{1, 0, 1}, {-1, 0, 1}, {0, 2, 1}, {0, -1, 1}, {0, 1, 0}, {0, 1, 100}, {0, 1, -1},
            {0, 1, Integer.MAX_VALUE}, {Integer.MAX_VALUE, 1, 1}, {0, Integer.MIN_VALUE, 1}}) {
            c.same("take(" + b[0] + ", " + b[1] + ", " + b[2] + ")", x.take(b[0], b[1], b[2]), -1);
        }
        c.row("refused", x, 0, "0 5");
        c.same("not loaded", new GrainShift().take(0, 0, 1), -1);
        c.same("LOST", Checks.lost().take(0, 0, 1), -1);
        c.part(6, "then the hold goes to REST with SLOPE LEAN.");
        // REST 2: 0 5: D -50: one comes back.
        GrainShift y = Checks.loaded("r2", "c2,h10", "f10,t1");
        c.same("take", y.take(0, 0, 5), 5);
        c.row("it goes to rest behind", y, 0, "1 4");
        // 3 5: LEAN 18: D -20 + 180 = 160 less 90: 3 go.
        GrainShift z = Checks.loaded("r9,w9", "c2,h10;c2,h10", "f10,t1;f10,t1");
        z.set(0, 1);
        c.same("take", z.take(0, 0, 2), 2);
        c.row("LEAN of then", z, 0, "0 8");
        c.row("another hold stays", z, 1, "5 5");
        c.same("not LOST behind it", z.about(3), 0);
        c.same("no TICK", z.about(1), 0);
        // FAST 290, LEAN 701, held 60: 19 20, D 590: 15 go; then 4 35: D 290: none.
        GrainShift w = Checks.loaded("r20,w1", "c2,h40", "f40,t1,k3");
        w.set(0, 1);
        w.set(1, 70);
        c.same("take", w.take(0, 0, 1), 1);
        c.row("SLOPE held within 60", w, 0, "4 35");
    }

    private static void heel() {
        c.part(6, "HEEL: all holds go to REST with SLOPE LEAN and so much (-40 .. 40),");
        GrainShift x = Checks.loaded("r2,w1", "c2,h10", "f10,t1");
        c.promise(37, "HEEL.");
        c.same("to the left", x.heel(-5), 1);
        c.row("to the left", x, 0, "6 4");
        c.same("by none", x.heel(0), 0);
        // D 20 and 10 times a.
        c.same("to the right", x.heel(1), 0);
        c.same("to the right", x.heel(2), 1);
        c.promise(37, "NONE: out of bounds, not loaded, LOST.");
        for (int a : new int[] {-41, 41, Integer.MIN_VALUE, Integer.MAX_VALUE}) {
            c.same("heel(" + a + ")", x.heel(a), -1);
        }
        c.same("not loaded", new GrainShift().heel(1), -1);
        c.same("LOST", Checks.lost().heel(1), -1);
        GrainShift y = Checks.loaded("r2,w1", "c2,h10", "f10,t1");
        c.same("the most", y.heel(40), 5);
        c.same("the most", y.heel(-40), 10);
        // 40 less 29 and 10: SLOPE 40 lets (400 - 290) by 20 go, 39 (390 - 290) by 20.
        c.same("40", Checks.loaded("r20,w1", "c2,h40", "f40,t1,k3").heel(40), 5);
        c.same("-40", Checks.loaded("r20,w1", "c2,h40", "f40,t1,k3").heel(-40), 5);
    }

    private static void heelOfTwoHolds() {
        c.part(6, "LEAN as ahead of all: UNITS that went;");
        // The first hold goes over; the second rests with LEAN as it was ahead of both.
        GrainShift x = new GrainShift();
        Checks.tell(x, 0, "r0,w9");
        Checks.tell(x, 0, "r4,w1");
        Checks.tell(x, 1, "c2,h20;c2,h20");
        Checks.tell(x, 2, "f20,t1;g1,f20,t1");
        x.load(0, 0, 0);
        x.set(0, 9);
        x.set(2, 60);
        // Slope 4: hold 0: D 40: 2 go (8 12), then D 0. Hold 1: D 40, holds fast 40: none.
        c.same("heel(4)", x.heel(4), 2);
        c.row("hold 0", x, 0, "8 12");
        c.row("hold 1", x, 1, "10 10");
        c.same("LEAN 36 by 9", x.about(0), 4);
        // Slope 4 again by LEAN alone; hold 0 rests (D 0). With 6: hold 1: D 60, one goes.
        c.same("heel(0)", x.heel(0), 0);
        c.same("both holds", x.heel(2), 2);
        c.row("hold 0", x, 0, "7 13");
        c.row("hold 1", x, 1, "9 11");
        c.same("LEAN 54 and 2 by 9", x.about(0), 6);
    }

    private static void heelUntilLost() {
        c.part(6, "she is LOST likewise behind it (no TICK, nothing SHAKEN).");
        for (int limit : new int[] {8, 9}) {
            GrainShift x = Checks.loaded("r2,w1", "c2,h10", "f10,t1");
            x.set(0, 1);
            x.set(2, limit);
            // D -100: 4 go: 9 1: LEAN -8, D -20: none.
            c.same("heel(-10)", x.heel(-10), 4);
            c.same("LEAN", x.about(0), -8);
            c.same("LOST by a LIMIT of " + limit, x.about(3), limit == 8 ? 1 : 0);
            c.same("HEEL then", x.heel(-3), limit == 8 ? -1 : 0);
            c.same("no TICK", x.about(1), 0);
            c.same("no DAYS", x.about(2), 0);
            c.same("nothing SHAKEN", x.hold(0, 3), 0);
        }
        GrainShift y = Checks.calm();
        y.set(0, 10);
        y.set(1, -25);
        c.same("none goes", y.heel(0), 0);
        c.same("LOST all the same", y.about(3), 1);
        c.same("no ROLL", y.roll(0), -1);
    }

    private static void tilt() {
        c.part(6, "TILT of a STUFF in a box of COLUMNS (2 .. 12), each with UNITS (1 .. 40), HEIGHT 40, no BOARD, no SACKS, nothing SETTLED or SHAKEN: the least SLOPE (0 .. 60) with which any goes.");
        GrainShift x = new GrainShift();
        Checks.tell(x, 0, "r0");
        Checks.tell(x, 0, "r20,s30,m30,l0");
        c.promise(38, "TILT.");
        c.same("REST 0", x.tilt(0, 2, 1), 2);
        c.same("the most COLUMNS", x.tilt(0, 12, 1), 2);
        c.same("room for one", x.tilt(0, 2, 39), 2);
        c.same("REST 20", x.tilt(1, 12, 39), 22);
        c.promise(38, "NONE: none to 60, no such ones.");
        c.same("no room", x.tilt(0, 2, 40), -1);
        c.same("no room", x.tilt(1, 12, 40), -1);
        for (int[] b : new int[][] {{2, 2, 1}, {-1, 2, 1}, {6, 2, 1}, {0, 1, 1}, {0, 13, 1}, {0, 2, 0}, {0, 2, 41},
            {Integer.MAX_VALUE, 2, 1}, {0, Integer.MIN_VALUE, 1}, {0, 2, Integer.MIN_VALUE}}) {
            c.same("tilt(" + b[0] + ", " + b[1] + ", " + b[2] + ")", x.tilt(b[0], b[1], b[2]), -1);
        }
        GrainShift y = Checks.loaded("r2,s9,m30,l0", "c2,h10", "f10,t1,b9,k3");
        c.same("no BOARD, no SACKS", y.tilt(0, 2, 5), 4);
        y.goes(0, 0);
        c.same("no BOARD, no SACKS of what was tried", y.tilt(0, 2, 5), 4);
        y.day(0);
        y.goes(40, 0);
        c.same("settled and soup as she is", y.tilt(0, 2, 5), 4);
        c.same("it asks for no ship that floats", Checks.lost().tilt(0, 2, 5), 22);
    }

    private static void ripens() {
        c.part(6, "RIPENS: after how many ROLLS by a (1 .. 40; only what they SHAKE counts) a hold is SOUP (0, if it is).");
        GrainShift x = Checks.loaded("m2,l100", "c2,h10;c3", "f10,t1;f3");
        c.promise(39, "RIPENS.");
        c.same("51 are needed", x.ripens(0, 1), 51);
        c.same("by 25: 50 is none", x.ripens(0, 25), 3);
        c.same("by 26: 52", x.ripens(0, 26), 2);
        c.same("by 40", x.ripens(1, 40), 2);
        x.roll(11);
        c.same("40 more", x.ripens(0, 40), 1);
        c.same("by 39", x.ripens(0, 39), 2);
        x.roll(40);
        c.same("it is", x.ripens(0, 1), 0);
        x.image();
        x.roll(40);
        c.same("it has been for long", x.ripens(0, 1), 0);
        x.back();
        c.same("SHAKEN as it was", x.hold(0, 3), 51);
        GrainShift w = Checks.loaded("r0,m1,l0,w9", "c2,h10", "f10,t1");
        w.set(0, 1);
        w.set(2, 1);
        c.same("a ROLL would lose her, it doesn't count", w.ripens(0, 40), 1);
        c.promise(39, "NONE: never by 999 ROLLS, no such ones, not loaded, LOST.");
        c.same("dry", Checks.loaded("m0,l0", "c2", "f0").ripens(0, 40), -1);
        c.same("1,000 ROLLS", Checks.loaded("m1,l999", "c2", "f0").ripens(0, 1), -1);
        GrainShift y = Checks.loaded("m1,l999", "c2", "f0");
        y.roll(1);
        c.same("999 ROLLS", y.ripens(0, 1), 999);
        for (int[] b : new int[][] {{1, 1}, {-1, 1}, {0, 0}, {0, 41}, {0, -1}, {0, Integer.MAX_VALUE},
            {Integer.MIN_VALUE, 1}}) {
            c.same("ripens(" + b[0] + ", " + b[1] + ")", y.ripens(b[0], b[1]), -1);
        }
        c.same("no such a of soup", x.ripens(0, 0), -1);
        c.same("not loaded", new GrainShift().ripens(0, 1), -1);
        GrainShift lost = Checks.loaded("m1,l0", "c2", "f0");
        lost.set(0, 1);
        lost.set(1, 99);
        lost.roll(1);
        c.same("LOST", lost.ripens(0, 1), -1);
    }

    private static void slide() {
        c.part(6, "SLIDE: COLUMNS of a hold (bits) that have fewer UNITS behind a ROLL by a.");
        GrainShift x = Checks.loaded("r1,w3", "c3,h20;c2,h10", "f30,t1;f10,t1");
        c.promise(40, "SLIDE.");
        // As in ShipTest a roll by 3 leaves 11 10 9 in hold 0; in hold 1 it leaves 6 4.
        c.same("fewer in 2", x.slide(0, 3), 4);
        c.same("fewer in 1", x.slide(1, 3), 2);
        c.row("apart from her", x, 0, "10 10 10");
        c.same("none", x.slide(0, 2), 0);
        c.same("a 0", x.slide(0, 0), 0);
        c.differ("a 40", x.slide(0, 40), 0);
        c.promise(40, "NONE: no such ones, not loaded, LOST.");
        for (int[] b : new int[][] {{2, 1}, {-1, 1}, {0, -1}, {0, 41}, {Integer.MAX_VALUE, 1}, {0, Integer.MIN_VALUE}}) {
            c.same("slide(" + b[0] + ", " + b[1] + ")", x.slide(b[0], b[1]), -1);
        }
        c.same("not loaded", new GrainShift().slide(0, 1), -1);
        c.same("LOST", Checks.lost().slide(0, 1), -1);
        // All of column 0 to 10 goes: LEAN holds SLOPE at 60 both times.
        GrainShift y = Checks.loaded("r0,w1", "c12,h40", "f12,t1");
        y.set(0, 1);
        y.set(1, 999);
        c.same("all but the last", y.slide(0, 0), 2047);
        y.set(1, -999);
        c.same("all but the first", y.slide(0, 0), 4094);
    }
}
