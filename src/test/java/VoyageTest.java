/** Promises 41 to 48: ports, seeds, the soonest loss, the book, rules for ballast. */
public final class VoyageTest {
    private static final Checks c = new Checks();

    public static void main(String[] args) {
        refusedWithoutHer();
        ports();
        reach();
        over();
        soonest();
        book();
        follow();
        letters();
        arithmetic();
        conditions();
        better();
        c.finish();
    }

    private static void refusedWithoutHer() {
        GrainShift none = new GrainShift();
        GrainShift lost = calm();
        lost.set(1, 99);
        lost.set(0, 1);
        lost.roll(0);
        for (GrainShift x : new GrainShift[] {none, lost}) {
            Checks.tell(x, 3, "y:1");
            x.port(1, 1);
            c.same("reach", x.reach(0, 0), Checks.HIDDEN);
            c.same("reach", x.reach(0, 1), Checks.HIDDEN);
            c.same("over", x.over(0, 1, 1, 0), Checks.HIDDEN);
            c.same("soonest", x.soonest(0), -1);
            c.same("book", x.book(1), -1);
            c.same("book", x.book(-1), -1);
            c.same("follow", x.follow(0, 0, 1, 1, 0), Checks.HIDDEN);
            c.same("better", x.better(0, 1, 1), -1);
        }
    }

    /** No grain: LEAN is 10 times BALLAST by STIFF. */
    private static GrainShift calm() {
        return Checks.loaded("r20", "c2,h10", "f0");
    }

    /** Soup from a SHAKEN of 100 on, with a slight list to the right, which then runs away with her. */
    private static GrainShift ripening() {
        GrainShift x = Checks.loaded("r20,m1,l100,w9", "c2,h20", "f20,t1");
        x.set(0, 9);
        x.set(1, 4);
        x.set(2, 10);
        return x;
    }

    private static void ports() {
        GrainShift x = new GrainShift();
        for (int[] b : new int[][] {{0, 1}, {10, 1}, {1, -1}, {1, 10000}, {Integer.MIN_VALUE, 0}}) {
            c.same("out of bounds", x.port(b[0], b[1]), -1);
        }
        for (int k = 0; k < 6; k++) {
            c.same("port", x.port(k % 2 == 0 ? 1 : 9, k % 2 == 0 ? 0 : 9999), k);
        }
        c.same("six are there", x.port(1, 1), -1);
    }

    private static void reach() {
        GrainShift x = ripening();
        c.same("no ports", x.reach(0, 0), 0);
        c.same("no ports", x.reach(0, 1), -1);
        int gone = x.soonest(10);
        c.same("lost in a few days", gone >= 2 && gone <= 9 ? 1 : 0, 1);
        x.port(gone, 9999);
        x.port(gone - 1, 5);
        x.port(1, 5);
        x.port(9, 100);
        c.same("reached", x.reach(10, 0), 2 + 4);
        c.same("of several the lowest", x.reach(10, 1), 1);
        x.port(gone - 1, 6);
        c.same("the most WORTH", x.reach(10, 1), 4);
        for (int[] b : new int[][] {{-1, 0}, {31, 0}, {0, 2}, {0, -1}}) {
            c.same("no such ones", x.reach(b[0], b[1]), Checks.HIDDEN);
        }
        c.same("she stayed", x.about(2), 0);
        x.set(2, 4);
        c.same("none reached", x.reach(10, 0), 0);
        c.same("none reached", x.reach(10, 1), -1);
        GrainShift y = calm();
        y.port(1, 0);
        c.same("WORTH 0", y.reach(0, 1), 0);
    }

    private static void over() {
        GrainShift x = calm();
        x.set(0, 10);
        x.set(1, -7);
        c.same("lost", x.over(0, 1, 20, 0), 0);
        c.same("the sum with its sign", x.over(0, 1, 20, 1), -140);
        c.same("the greatest without", x.over(0, 9, 1, 2), 7);
        x.set(2, 7);
        c.same("all lost", x.over(0, 1, 20, 0), 20);
        c.same("the lost count in the sum", x.over(0, 1, 20, 1), -140);
        for (int[] b : new int[][] {{-1, 1, 1, 0}, {31, 1, 1, 0}, {0, 0, 1, 0}, {0, 10, 1, 0}, {0, 1, 0, 0},
            {0, 1, 21, 0}, {0, 1, 1, 3}, {0, 1, 1, -1}}) {
            c.same("no such ones", x.over(b[0], b[1], b[2], b[3]), Checks.HIDDEN);
        }
        c.same("she is not lost", x.about(3), 0);
        // Seeds are the draws: one seed over is what a load by it and days come to.
        GrainShift y = Checks.loaded("r3,w3", "c5,h20", "f60");
        y.set(0, 20);
        int sum = 0;
        for (int seed = 0; seed < 4; seed++) {
            y.load(0, 0, seed);
            y.day(4);
            y.day(4);
            sum += y.about(0);
        }
        y.load(0, 0, 99);
        c.same("sum over 4", y.over(4, 2, 4, 1), sum);
    }

    private static void soonest() {
        GrainShift x = ripening();
        int gone = x.soonest(10);
        for (int day = 1; day <= gone; day++) {
            c.same("day", x.day(10), day);
            c.same("lost", x.about(3), day == gone ? 1 : 0);
        }
        GrainShift y = ripening();
        y.day(10);
        c.same("counted from now", y.soonest(10), gone - 1);
        late();
        c.same("never", calm().soonest(30), -1);
        c.same("no such sea", y.soonest(31), -1);
        c.same("no such sea", y.soonest(-1), -1);
        GrainShift z = calm();
        z.set(0, 1);
        z.set(1, 6);
        c.same("at once", z.soonest(0), 1);
    }

    /** A loss beyond 30 days is seen from the day on from which it is the 30th. */
    private static void late() {
        GrainShift x = Checks.loaded("r20,m1,l400,w9", "c2,h20", "f20,t1");
        x.set(0, 9);
        x.set(1, 4);
        x.set(2, 10);
        x.image();
        int gone = 0;
        while (x.about(3) == 0 && gone < 100) {
            gone = x.day(0);
        }
        c.same("lost beyond 31 days", gone > 31 && gone < 100 ? 1 : 0, 1);
        x.back();
        for (int left = gone; left > 0; left--) {
            c.same("soonest with " + left + " left", x.soonest(0), left <= 30 ? left : -1);
            x.day(0);
        }
    }

    private static void book() {
        GrainShift x = calm();
        x.set(2, 60);
        // At 0 the book says more: TIMES a by 10, cut; she stays at 0.
        c.same("TIMES 0", x.book(0), 0);
        c.same("TIMES 1: 0 1 1 2 2 3 3 4", x.book(1), 16);
        c.same("TIMES 10: 5 10 .. 40", x.book(10), 180);
        c.same("TIMES 99", x.book(99), 49 + 99 + 148 + 198 + 247 + 297 + 346 + 396);
        c.same("the best", x.book(-1), 0);
        x.set(0, 10);
        x.set(1, -3);
        c.same("further from 0", x.book(10), 180);
        c.same("out of bounds", x.book(100), -1);
        c.same("out of bounds", x.book(-2), -1);
        // All grain goes over, and back, by any a; the best TIMES is the one the sums tell.
        GrainShift y = Checks.loaded("r3,w9", "c4,h20", "f40,t1");
        y.set(0, 30);
        int best = 0;
        for (int t = 1; t < 100; t++) {
            best = y.book(t) < y.book(best) ? t : best;
        }
        c.same("the least, lowest", y.book(-1), best);
        int off = 0;
        for (int a = 5; a <= 40; a += 5) {
            off += Math.abs(y.goes(a, 2) - 7 * a / 10);
        }
        c.same("from level: more", y.book(7), off);
    }

    private static int turned(GrainShift x, String rule, int days) {
        int number = Checks.tell(x, 3, rule);
        return x.follow(number, 0, days, 1, 2);
    }

    private static void follow() {
        GrainShift x = calm();
        x.set(0, 10);
        x.set(1, 5);
        c.same("rule", Checks.tell(x, 3, "y:d=0?20;y:d=1?0-4;y:9999"), 0);
        c.same("15", x.follow(0, 0, 1, 1, 2), 15);
        c.same("15 24", x.follow(0, 0, 2, 1, 2), 39);
        c.same("LEAN -4", x.follow(0, 0, 2, 1, 1), 4);
        c.same("held within 999", x.follow(0, 0, 3, 1, 2), 39 + 1003);
        c.same("lost", x.follow(0, 0, 3, 1, 0), 1);
        c.same("LEAN 999 in the end", x.follow(0, 0, 3, 1, 1), 999);
        c.same("lost, it turns no more", x.follow(0, 0, 9, 1, 2), 39 + 1003);
        c.same("seeds begin alike", x.follow(0, 0, 3, 5, 2), 5 * (39 + 1003));
        c.same("seeds together", x.follow(0, 0, 3, 5, 1), 5 * 999);
        c.same("how often", x.follow(0, 0, 3, 5, 0), 5);
        c.same("BALLAST as it was", x.count(5), 5);
        c.same("she as she was", x.about(2), 0);
        for (int[] b : new int[][] {{1, 0, 1, 1, 0}, {-1, 0, 1, 1, 0}, {0, -1, 1, 1, 0}, {0, 31, 1, 1, 0},
            {0, 0, 0, 1, 0}, {0, 0, 10, 1, 0}, {0, 0, 1, 0, 0}, {0, 0, 1, 6, 0}, {0, 0, 1, 1, 3}, {0, 0, 1, 1, -1}}) {
            c.same("no such ones", x.follow(b[0], b[1], b[2], b[3], b[4]), Checks.HIDDEN);
        }
        x.day(0);
        c.same("d is DAYS of hers", x.follow(0, 0, 1, 1, 2), 9);
        c.same("none holds: 0", turned(x, "y:1>2?7", 1), 5);
    }

    private static void letters() {
        GrainShift x = Checks.loaded("r20,w9", "c12,h40", "f12,t1,k3");
        x.set(0, 10);
        x.set(2, 60);
        x.pour(0, 11, 3);
        // MOMENT 297, LEAN 29 with no BALLAST.
        c.same("l", turned(x, "y:l", 1), 29);
        c.same("m", turned(x, "y:m", 1), 2);
        x.set(1, 3);
        c.same("b and l of then", turned(x, "y:b+l", 1), 32);
        x.set(0, 100);
        x.roll(7);
        c.same("s", turned(x, "y:s+b", 1), 7);
        GrainShift y = calm();
        Checks.tell(y, 3, "y:w");
        c.same("w", y.follow(0, 13, 1, 1, 2), 13);
        Checks.tell(y, 3, "y:d*10");
        c.same("d", y.follow(1, 0, 3, 1, 2), 20);
        GrainShift z = new GrainShift();
        Checks.tell(z, 0, "r20,w9");
        Checks.tell(z, 1, "c2,h20;c2,h20");
        Checks.tell(z, 2, "f0;f0");
        z.load(0, 0, 0);
        z.pour(0, 0, 12);
        z.pour(1, 0, 4);
        // MOMENT -144 by 100 is -1.
        c.same("m is cut towards 0", turned(z, "y:[m=0-1]", 1), Checks.HIDDEN);
        c.same("m is cut towards 0", turned(z, "y:m=0-1?50", 1), 50);
    }

    private static void sum(String text, int want) {
        GrainShift x = calm();
        x.set(2, 60);
        x.set(0, 9999);
        c.same("sum " + text, turned(x, "y:" + text + "=" + want + "?77", 1), 77);
    }

    private static void arithmetic() {
        sum("[1+2*3]", 7);
        sum("[[1+2]*3]", 9);
        sum("[9-3-2]", 4);
        sum("[9-[3-2]]", 8);
        sum("[100/7/2]", 7);
        sum("[7/2*2]", 6);
        sum("[5/0+1]", 1);
        sum("[[0-7]/2+10]", 7);
        sum("[9999*9999/1000]", 1000);
        sum("[9999*9999-9999*9999]", 0);
        sum("[[0-9999]*9999+999*1000+1007]", 7);
        sum("[9999*100+9999-9999*100]", 100);
        sum("[0-9999*100-9999+9999*100+107]", 7);
    }

    private static void condition(String text, boolean want) {
        GrainShift x = calm();
        x.set(0, 9999);
        x.set(2, 60);
        c.same("condition " + text, turned(x, "y:" + text + "?1;y:2", 1), want ? 1 : 2);
    }

    private static void conditions() {
        condition("1=1", true);
        condition("1=2", false);
        condition("1<2", true);
        condition("2<2", false);
        condition("3>2", true);
        condition("2>2", false);
        condition("!1=1", false);
        condition("!!1=1", true);
        condition("1=1|1=1&1=2", true);
        condition("(1=1|1=1)&1=2", false);
        condition("!1=2&1=2", false);
        condition("!(1=2&1=2)", true);
        condition("1=2|1=2|1=1", true);
        condition("1=1&1=1&1=2", false);
        condition("1=2|!(1=1&(1=2|1=1))", false);
        condition("0-5<0", true);
    }

    private static void better() {
        GrainShift x = calm();
        x.set(0, 10);
        c.same("no rules", x.better(0, 1, 1), -1);
        Checks.tell(x, 3, "y:30");
        Checks.tell(x, 3, "y:24");
        c.same("the other is lost", x.better(0, 1, 1), 1);
        Checks.tell(x, 3, "y:0-3");
        c.same("the least LEANS", x.better(0, 1, 1), 2);
        Checks.tell(x, 3, "y:3");
        c.same("of several the lowest", x.better(0, 1, 1), 2);
        x.set(1, 1);
        c.same("the least TURNED", x.better(0, 1, 1), 3);
        c.same("rules()", x.rules(), 4);
        c.same("BALLAST as it was", x.count(5), 1);
        // Lost in some seeds (by what they shook) with LEANS less than those of a steady 24.
        GrainShift y = calm();
        y.set(0, 10);
        Checks.tell(y, 3, "y:s>11?25;y:0");
        Checks.tell(y, 3, "y:24");
        int lost = y.follow(0, 0, 2, 5, 0);
        c.same("some are lost", lost >= 1 && lost <= 4 ? 1 : 0, 1);
        c.same("LEANS of these", y.follow(0, 0, 2, 5, 1), 25 * lost);
        c.same("LEANS of the other", y.follow(1, 0, 2, 5, 1), 120);
        c.same("the fewest LOST come first", y.better(0, 2, 5), 1);
        for (int[] b : new int[][] {{-1, 1, 1}, {31, 1, 1}, {0, 0, 1}, {0, 10, 1}, {0, 1, 0}, {0, 1, 6}}) {
            c.same("no such ones", x.better(b[0], b[1], b[2]), -1);
        }
    }
}
