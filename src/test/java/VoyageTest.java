/** Part 6 from PORTS on and promises 41 to 45: ports, many seeds, the soonest loss, the book. */
public final class VoyageTest {
    private static final Checks c = new Checks();

    public static void main(String[] args) {
        ports();
        reach();
        bestPort();
        over();
        overAsSheIs();
        soonest();
        soonestOfThirty();
        book();
        bookEitherWay();
        bestTimes();
        c.finish();
    }

    /** Soup from a SHAKEN of 100 on, with a slight list to the right, which then runs away with her. */
    private static GrainShift ripening(int line) {
        GrainShift x = Checks.loaded("r20,m1,l" + line + ",w9", "c2,h20", "f20,t1");
        x.set(0, 9);
        x.set(1, 4);
        x.set(2, 10);
        return x;
    }

    private static void ports() {
        c.part(6, "PORTS (6 at most): DAYS (1 .. 9) and WORTH (0 .. 9,999):");
        GrainShift x = new GrainShift();
        c.promise(41, "A PORT: its number.");
        for (int k = 0; k < 6; k++) {
            c.same("port", x.port(k % 2 == 0 ? 1 : 9, k % 3 == 0 ? 0 : 9999), k);
        }
        c.promise(41, "NONE: out of bounds, there are six.");
        c.same("six are there", x.port(1, 1), -1);
        GrainShift y = new GrainShift();
        for (int[] b : new int[][] {{0, 1}, {10, 1}, {1, -1}, {1, 10000}, {9, 10000}, {10, 9999}, {Integer.MIN_VALUE, 0},
            {Integer.MAX_VALUE, 0}, {1, Integer.MIN_VALUE}, {1, Integer.MAX_VALUE}}) {
            c.same("port(" + b[0] + ", " + b[1] + ")", y.port(b[0], b[1]), -1);
        }
        c.same("none was kept", y.port(1, 1), 0);
    }

    private static void reach() {
        c.part(6, "by a SEA, run from as she is: REACHED: PORTS at which she is not LOST by then;");
        GrainShift x = ripening(100);
        int gone = x.soonest(10);
        c.yes("lost within a few days", gone >= 2 && gone < 9);
        c.promise(42, "REACHED, as bits (what 0); BEST (1; NONE: none).");
        c.same("no PORTS", x.reach(10, 0), 0);
        c.same("no PORTS", x.reach(10, 1), -1);
        x.port(gone, 9999);
        c.same("the day in which she is LOST", x.reach(10, 0), 0);
        c.same("none", x.reach(10, 1), -1);
        x.port(gone - 1, 5);
        x.port(1, 5);
        x.port(9, 100);
        c.same("the day ahead of it", x.reach(10, 0), 2 + 4);
        c.same("she stayed", x.about(2), 0);
        x.day(10);
        c.same("from as she is", x.reach(10, 0), gone == 2 ? 0 : 4);
        c.promise(42, "HIDDEN: no such ones, not loaded, LOST.");
        for (int[] b : new int[][] {{-1, 0}, {31, 0}, {0, 2}, {0, -1}, {Integer.MAX_VALUE, 0}, {Integer.MIN_VALUE, 1}}) {
            c.same("reach(" + b[0] + ", " + b[1] + ")", x.reach(b[0], b[1]), Checks.HIDDEN);
        }
        for (GrainShift y : new GrainShift[] {new GrainShift(), Checks.lost()}) {
            y.port(1, 1);
            c.same("not loaded, LOST", y.reach(0, 0), Checks.HIDDEN);
            c.same("not loaded, LOST", y.reach(0, 1), Checks.HIDDEN);
        }
    }

    private static void bestPort() {
        c.part(6, "BEST of these: with the most WORTH (of several the lowest).");
        GrainShift x = Checks.calm();
        x.port(9, 0);
        c.same("WORTH 0", x.reach(30, 1), 0);
        x.port(1, 5);
        x.port(5, 5);
        c.same("of several the lowest", x.reach(0, 1), 1);
        x.port(9, 9999);
        x.port(9, 9998);
        c.same("the most", x.reach(0, 1), 3);
        x.port(1, 1);
        c.same("all six", x.reach(30, 0), 63);
        GrainShift z = Checks.calm();
        z.port(9, 5);
        z.port(1, 8);
        z.port(2, 20);
        c.same("WORTH, not DAYS", z.reach(0, 1), 2);
        GrainShift y = ripening(100);
        y.port(9, 9999);
        y.port(1, 1);
        c.same("only of these", y.reach(10, 1), 1);
    }

    private static void over() {
        c.part(6, "OVER n seeds (1 .. 20; 0 .. n less 1 as draws, from as she is) by a SEA and DAYS: how often LOST; the sum of LEANS; the greatest LEAN without sign.");
        GrainShift x = Checks.calm();
        x.set(0, 10);
        x.set(1, -7);
        c.promise(43, "OVER: how often LOST (0), the sum (1), the greatest (2).");
        c.same("lost", x.over(0, 1, 20, 0), 0);
        c.same("the sum with its sign", x.over(0, 1, 20, 1), -140);
        c.same("the greatest without", x.over(30, 9, 1, 2), 7);
        c.same("none leans", Checks.calm().over(0, 1, 20, 2), 0);
        c.same("none leans", Checks.calm().over(0, 1, 20, 1), 0);
        x.set(2, 7);
        c.same("all lost", x.over(0, 1, 20, 0), 20);
        c.same("the lost count in the sum", x.over(0, 1, 20, 1), -140);
        c.same("she is not lost", x.about(3), 0);
        // Draws of the first day come to more than 9 by all seeds but 1, 2, 8, 16 and 19.
        GrainShift y = ripening(9);
        int lost = 0;
        for (int n = 1; n <= 20; n++) {
            lost += n == 2 || n == 3 || n == 9 || n == 17 || n == 20 ? 0 : 1;
            c.same("lost of " + n, y.over(0, 1, n, 0), lost);
        }
        c.promise(43, "HIDDEN: no such ones, not loaded, LOST.");
        for (int[] b : new int[][] {{-1, 1, 1, 0}, {31, 1, 1, 0}, {0, 0, 1, 0}, {0, 10, 1, 0}, {0, 1, 0, 0},
            {0, 1, 21, 0}, {0, 1, 1, 3}, {0, 1, 1, -1}, {0, 1, Integer.MAX_VALUE, 0}}) {
            c.same("no such ones", x.over(b[0], b[1], b[2], b[3]), Checks.HIDDEN);
        }
        for (int what = 0; what < 3; what++) {
            c.same("not loaded", new GrainShift().over(0, 1, 1, what), Checks.HIDDEN);
            c.same("LOST", Checks.lost().over(0, 1, 1, what), Checks.HIDDEN);
        }
    }

    /** Seeds are the draws: each is what a load by it, the same roll and the days come to. */
    private static void overAsSheIs() {
        c.part(6, "OVER n seeds (1 .. 20; 0 .. n less 1 as draws, from as she is) by a SEA and DAYS: how often LOST; the sum of LEANS; the greatest LEAN without sign.");
        GrainShift x = Checks.loaded("r3,s4,w3", "c5,h20", "f60");
        x.set(0, 12);
        int lost = 0;
        int sum = 0;
        int greatest = 0;
        for (int seed = 0; seed < 20; seed++) {
            x.load(0, 0, seed);
            x.roll(7);
            x.day(9);
            x.day(9);
            lost += x.about(3);
            sum += x.about(0);
            greatest = Math.max(greatest, Math.abs(x.about(0)));
        }
        x.load(0, 0, 99);
        x.roll(7);
        c.same("lost", x.over(9, 2, 20, 0), lost);
        c.same("sum", x.over(9, 2, 20, 1), sum);
        c.same("greatest", x.over(9, 2, 20, 2), greatest);
        c.yes("they lean", sum != 0 && greatest > 1);
    }

    private static void soonest() {
        c.part(6, "SOONEST: the DAY (1 .. 30) in which she is LOST by a SEA, run from as she is.");
        GrainShift x = ripening(100);
        int gone = x.soonest(10);
        for (int day = 1; day <= gone; day++) {
            c.same("day", x.day(10), day);
            c.same("lost", x.about(3), day == gone ? 1 : 0);
        }
        GrainShift y = ripening(100);
        y.day(10);
        c.same("counted from now", y.soonest(10), gone - 1);
        GrainShift z = Checks.calm();
        z.set(0, 1);
        z.set(1, 6);
        c.same("at once", z.soonest(0), 1);
        c.same("at once", z.soonest(30), 1);
        c.promise(44, "SOONEST. NONE: not by 30, no such SEA, not loaded, LOST.");
        for (int sea : new int[] {-1, 31, Integer.MIN_VALUE, Integer.MAX_VALUE}) {
            c.same("soonest(" + sea + ")", z.soonest(sea), -1);
        }
        c.same("never", Checks.calm().soonest(30), -1);
        c.same("not loaded", new GrainShift().soonest(0), -1);
        c.same("LOST", Checks.lost().soonest(0), -1);
    }

    /** A loss beyond 30 days is seen from the day on from which it is the 30th. */
    private static void soonestOfThirty() {
        GrainShift x = ripening(400);
        x.image();
        int gone = 0;
        while (x.about(3) == 0 && gone < 100) {
            gone = x.day(0);
        }
        c.yes("lost beyond 31 days", gone > 31 && gone < 100);
        x.back();
        for (int left = gone; left > 0; left--) {
            c.same("soonest with " + left + " left", x.soonest(0), left <= 30 ? left : -1);
            x.day(0);
        }
    }

    private static void book() {
        c.part(6, "how far it is off, without sign, from LEAN behind a ROLL by a, in all eight together;");
        GrainShift x = Checks.calm();
        c.promise(45, "BOOK by TIMES (0 .. 99);");
        // At 0 the book says more: TIMES a by 10, cut; she stays at 0.
        c.same("TIMES 0", x.book(0), 0);
        c.same("TIMES 1: 0 1 1 2 2 3 3 4", x.book(1), 16);
        c.same("TIMES 10: 5 10 .. 40", x.book(10), 180);
        c.same("TIMES 99", x.book(99), 49 + 99 + 148 + 198 + 247 + 297 + 346 + 396);
        x.set(0, 10);
        x.set(1, -3);
        c.same("as far off", x.book(10), 180);
        c.promise(45, "NONE: no such ones, not loaded, LOST.");
        for (int times : new int[] {100, -2, Integer.MIN_VALUE, Integer.MAX_VALUE}) {
            c.same("book(" + times + ")", x.book(times), -1);
        }
        for (int times : new int[] {-1, 0, 99}) {
            c.same("not loaded", new GrainShift().book(times), -1);
            c.same("LOST", Checks.lost().book(times), -1);
        }
    }

    /** Grain that goes over and back, leaning as the ballast has it. */
    private static GrainShift going(int ballast) {
        GrainShift x = Checks.loaded("r3,w9", "c4,h20", "f40,t1");
        x.set(0, 30);
        x.set(1, ballast);
        return x;
    }

    private static void bookEitherWay() {
        c.part(6, "BOOK: for a 5, 10, .. 40 the book says that a ROLL by a leaves LEAN less TIMES a by 10, cut, or more by that, whichever is further from 0 (at 0: more; TIMES 0 .. 99):");
        for (int ballast : new int[] {-12, -3, -2, 0, 2, 3, 12}) {
            GrainShift x = going(ballast);
            x.take(0, ballast > 0 ? 0 : 3, 3);
            int now = x.about(0);
            c.yes("LEAN has its own of the grain", now != ballast / 3);
            for (int times : new int[] {0, 1, 7, 13, 99}) {
                int off = 0;
                for (int a = 5; a <= 40; a += 5) {
                    int said = now < 0 ? now - times * a / 10 : now + times * a / 10;
                    off += Math.abs(said - x.goes(a, 2));
                }
                c.same("book(" + times + ") at " + now, x.book(times), off);
            }
        }
        c.yes("it moves", going(0).goes(40, 2) != 0);
    }

    private static void bestTimes() {
        c.part(6, "the TIMES with the least (of several the lowest).");
        c.promise(45, "the best TIMES (NONE).");
        c.same("calm", Checks.calm().book(-1), 0);
        for (int ballast = -24; ballast <= 24; ballast += 3) {
            leastOfAll(going(ballast));
            GrainShift light = Checks.loaded("r" + Math.abs(ballast) % 5 + ",w1", "c4,h20", "f40,t1");
            light.set(0, 20);
            light.set(1, ballast);
            leastOfAll(light);
        }
        // Here 1 is least, and 0 is not.
        GrainShift y = Checks.loaded("r0,w1", "c4,h20", "f40,t1");
        y.set(0, 20);
        y.set(1, -3);
        c.same("the least but 0", y.book(-1), 1);
        // LEAN -1, and -2 where all goes over to the left: 0 is least, though it is off.
        GrainShift w = Checks.loaded("r3,w1", "c4,h20", "f40,t1");
        w.set(0, 90);
        w.set(1, -10);
        c.yes("0 is off", w.book(0) > 0);
        c.same("0 is least", w.book(-1), 0);
        // Here 15 and 16 are off alike and least.
        GrainShift x = Checks.loaded("r0,w3", "c4,h20", "f40,t1");
        x.set(0, 5);
        c.same("15 and 16", x.book(15), x.book(16));
        c.same("of several the lowest", x.book(-1), 15);
        // All goes right and stays, LEAN comes to thousands, and no TIMES says enough.
        GrainShift z = Checks.loaded("r0,w9", "c12,h40", "f240,t1");
        z.set(0, 1);
        z.set(1, 7);
        c.same("the greatest TIMES", z.book(-1), 99);
    }

    private static void leastOfAll(GrainShift x) {
        int best = 0;
        for (int t = 1; t < 100; t++) {
            best = x.book(t) < x.book(best) ? t : best;
        }
        c.same("the least, lowest at " + x.about(0), x.book(-1), best);
    }
}
