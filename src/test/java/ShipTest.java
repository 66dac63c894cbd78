/** Promises 9 to 15: settings, loading, rolls, days, and what is seen of her. */
public final class ShipTest {
    private static final Checks c = new Checks();

    public static void main(String[] args) {
        settings();
        whatCanBeLoaded();
        trimmed();
        poured();
        pouredWithBoardAndSacks();
        loadedAnew();
        rolls();
        boards();
        room();
        sweeps();
        slopesAreHeld();
        soup();
        lost();
        days();
        draws();
        severalHolds();
        looks();
        c.finish();
    }

    private static void settings() {
        GrainShift x = new GrainShift();
        int[][] bounds = {{1, 9999}, {-999, 999}, {1, 60}};
        for (int what = 0; what < 3; what++) {
            int low = bounds[what][0];
            int high = bounds[what][1];
            c.yes("set lowest", x.set(what, low));
            c.same("count", x.count(4 + what), low);
            c.no("set below", x.set(what, low - 1));
            c.yes("set highest", x.set(what, high));
            c.no("set above", x.set(what, high + 1));
            c.no("set far", x.set(what, Integer.MIN_VALUE));
            c.same("count", x.count(4 + what), high);
        }
        c.no("no such what", x.set(3, 1));
        c.no("no such what", x.set(-1, 1));
    }

    private static void whatCanBeLoaded() {
        GrainShift x = new GrainShift();
        Checks.tell(x, 1, "c2,h5;c3,h4");
        Checks.tell(x, 2, "f10;f12");
        c.no("no stuff there", x.load(0, 0, 0));
        Checks.tell(x, 0, "r1");
        c.yes("full to the top", x.load(0, 0, 0));
        Checks.tell(x, 2, "f11;f0");
        Checks.tell(x, 2, "f0;f13");
        Checks.tell(x, 2, "f0;g1");
        Checks.tell(x, 2, "f1");
        Checks.tell(x, 2, "f1;f1;f1");
        x.roll(1);
        for (int p = 1; p < 6; p++) {
            c.no("load(0, " + p + ")", x.load(0, p, 0));
        }
        c.no("no ship", x.load(1, 0, 0));
        c.no("no ship", x.load(-1, 0, 0));
        c.no("no plan", x.load(0, 6, 0));
        c.no("no plan", x.load(0, -1, 0));
        c.same("refused, she is as before", x.about(1), 1);
        c.row("as before", x, 0, "5 5");
        Checks.tell(x, 0, "r2");
        c.yes("the second stuff is there now", x.load(0, 3, 0));
        c.same("loaded anew", x.about(1), 0);
    }

    private static void trimmed() {
        c.row("going round", Checks.loaded("r0", "c3,h9", "f8,t1"), 0, "3 3 2");
        c.row("none", Checks.loaded("r0", "c3,h9", "f0,t1"), 0, "0 0 0");
        c.row("full", Checks.loaded("r0", "c3,h9", "f27,t1"), 0, "9 9 9");
    }

    private static void poured() {
        // REST 20 holds fast all: by turns 1 and 2, until these are full.
        c.row("first the lower", Checks.loaded("r20", "c4,h4", "f1"), 0, "0 1 0 0");
        c.row("then the upper", Checks.loaded("r20", "c4,h4", "f2"), 0, "0 1 1 0");
        c.row("by turns", Checks.loaded("r20", "c4,h4", "f7"), 0, "0 4 3 0");
        c.row("the nearest of a full one", Checks.loaded("r20", "c4,h4", "f9"), 0, "1 4 4 0");
        c.row("its turn", Checks.loaded("r20", "c4,h4", "f10"), 0, "1 4 4 1");
        c.row("when one side is full", Checks.loaded("r20", "c4,h4", "f16"), 0, "4 4 4 4");
        c.row("of two as near the lower", Checks.loaded("r20", "c3,h4", "f7"), 0, "3 4 0");
        c.row("odd, one middle", Checks.loaded("r20", "c5,h9", "f4"), 0, "0 0 4 0 0");
        // REST 0: the second on one column is 20 above its neighbours, 1 goes, first to the left.
        c.row("two on the middle", Checks.loaded("r0", "c3,h9", "f2"), 0, "1 1 0");
        c.row("three", Checks.loaded("r0", "c3,h9", "f3"), 0, "1 1 1");
        c.row("six", Checks.loaded("r0", "c3,h9", "f6"), 0, "2 2 2");
        // REST 2: a step of 4 (40 less 20 is 20) lets one go.
        c.row("a slope of rest", Checks.loaded("r2", "c3,h9", "f4"), 0, "1 3 0");
        c.row("and the other side", Checks.loaded("r2", "c3,h9", "f5"), 0, "1 3 1");
    }

    private static void pouredWithBoardAndSacks() {
        // SACKS 1 are as 3 of REST: 2 of REST and these hold 5: 70 less 50 lets one go.
        c.row("sacks", Checks.loaded("r2", "c3,h9", "f6,k1"), 0, "0 6 0");
        c.row("sacks", Checks.loaded("r2", "c3,h9", "f7,k1"), 0, "1 6 0");
        // With REST 0 and two columns the second of each turn would go over; a board of 3 keeps it.
        c.row("no board", Checks.loaded("r0", "c2,h9", "f3"), 0, "2 1");
        c.same("sacks hold fast", Checks.loaded("r2", "c3,h9", "f1,k3").hold(0, 5), 110);
    }

    private static void loadedAnew() {
        GrainShift x = Checks.loaded("r0,s9,m1,l0", "c2,h10", "f10,t1");
        x.set(0, 1);
        x.set(2, 1);
        x.day(5);
        c.same("lost", x.about(3), 1);
        c.yes("load", x.load(0, 0, 7));
        c.row("load", x, 0, "5 5");
        c.same("TICKS", x.about(1), 0);
        c.same("DAYS", x.about(2), 0);
        c.same("LOST", x.about(3), 0);
        c.same("SETTLED", x.hold(0, 2), 0);
        c.same("SHAKEN", x.hold(0, 3), 0);
        c.same("settings stay", x.count(4), 1);
    }

    private static void rolls() {
        GrainShift x = new GrainShift();
        c.same("not loaded", x.roll(0), -1);
        x = Checks.loaded("r1,w3", "c3,h20", "f30,t1");
        c.same("below 0", x.roll(-1), -1);
        c.same("above 40", x.roll(41), -1);
        c.same("nothing happened", x.about(1), 0);
        // 10 10 10, D 30, holds fast 10: one goes 0 to 1, then 11 to 10: D 40, one to 2: 9 10 11.
        // Second sweep: D 20, 20: none. Then LEAN (2 times 2 times 3 = 12 by 400) 0, slope -3:
        // D (90-100-30 = -40): one back: 10 9 11; D -50: 2 back: 10 11 9; sweep 2: D -40: 1: 11 10 9; D -20: none;
        // sweep 3: D -20, -20: none.
        c.same("roll(3)", x.roll(3), 2 + 1 + 2 + 1);
        c.row("roll(3)", x, 0, "11 10 9");
        c.same("TICKS", x.about(1), 1);
        c.same("SHAKEN", x.hold(0, 3), 3);
        c.same("MOMENT", x.hold(0, 1), -12);
        c.same("all MOMENTS", x.about(5), -12);
        c.same("LEAN is cut towards 0", x.about(0), 0);
        x.set(0, 5);
        c.same("LEAN", x.about(0), -2);
        x.set(1, 1);
        c.same("LEAN with BALLAST", x.about(0), 0);
        x.set(1, 3);
        c.same("LEAN with BALLAST", x.about(0), 3);
    }

    private static void boards() {
        GrainShift y = Checks.loaded("r0", "c2,h30", "f40,t1,b18");
        y.heel(40);
        c.row("two lie above 18", y, 0, "18 22");
        y.heel(-40);
        c.row("four of 22", y, 0, "22 18");
        GrainShift z = Checks.loaded("r0", "c3,h30", "f30,t1,b40");
        z.heel(40);
        c.row("odd columns have no middle", z, 0, "0 0 30");
        GrainShift w = Checks.loaded("r0", "c2,h30", "f40,t1,b25");
        c.same("all below the board", w.heel(40), 0);
        GrainShift v = Checks.loaded("r0", "c4,h30", "f40,t1,b40");
        v.heel(40);
        c.row("only in the middle", v, 0, "0 20 0 20");
    }

    private static void room() {
        GrainShift x = Checks.loaded("r0", "c2,h10", "f14,t1");
        c.same("three fit", x.heel(40), 3);
        c.row("to the top", x, 0, "4 10");
        // SETTLED 1: TALL of 10 is 99, of 11 it is 108.
        GrainShift y = Checks.loaded("r0,s1", "c2,h10", "f10,t1");
        y.day(0);
        y.heel(40);
        c.row("no eleventh at 99 of a hundred", y, 0, "0 10");
        // SETTLED 30 after 30 days: TALL of 14 is 98, of 15 it is 105.
        GrainShift z = Checks.loaded("r20,s30", "c2,h10", "f18,t1");
        for (int k = 0; k < 31; k++) {
            z.day(0);
        }
        c.same("settled no further", z.hold(0, 2), 30);
        c.same("TALL", z.column(0, 0, 1), 63);
        c.same("GAP", z.hold(0, 6), 37);
        z.heel(40);
        c.row("fourteen fit", z, 0, "4 14");
        c.same("TALL", z.column(0, 1, 1), 98);
        // SETTLED 9: TALL of 11 is 100.1, cut.
        GrainShift w = Checks.loaded("r0,s9", "c2,h10", "f12,t1,k3");
        for (int k = 0; k < 9; k++) {
            w.day(0);
        }
        w.heel(40);
        c.row("eleven are 100, cut", w, 0, "1 11");
        c.same("TALL", w.column(0, 1, 1), 100);
        c.same("GAP", w.hold(0, 6), 0);
        // SETTLED 10: TALL of 9 is 81, of 8 it is 72.
        GrainShift v = Checks.loaded("r0,s10", "c2,h8", "f10,t1,k3");
        for (int k = 0; k < 10; k++) {
            v.day(0);
        }
        v.heel(40);
        c.row("no ninth at 81 of 80", v, 0, "2 8");
    }

    private static void sweeps() {
        // Twelve sweeps alone: with REST 0 and a slope of 2 one unit goes on each sweep from each column.
        GrainShift x = Checks.loaded("r0", "c12,h40", "f40");
        GrainShift y = Checks.loaded("r0", "c2,h40", "f80,t1");
        c.same("full: none", y.heel(40), 0);
        int first = x.heel(1);
        int second = x.heel(1);
        c.same("some go", first > 0 ? 1 : 0, 1);
        c.same("and then all rest", second, 0);
        // 40 in column 0, none elsewhere: 20 go, then 10 of them on, ... within the first sweep.
        GrainShift z = Checks.loaded("r0", "c4,h40", "f40,t1");
        z.heel(-40);
        z.heel(-40);
        c.row("all to the left", z, 0, "40 0 0 0");
        GrainShift w = Checks.loaded("r0", "c4,h8", "f8,t1");
        w.heel(-40);
        c.row("all to the left", w, 0, "8 0 0 0");
    }

    private static void slopesAreHeld() {
        // STIFF 1, BALLAST 999: LEAN is 9,990, the slope 60: D 600 + 0: (600 - 200) by 20 is 20 of 30.
        GrainShift x = Checks.loaded("r20", "c2,h40", "f60,t1");
        x.set(0, 1);
        x.set(1, 999);
        c.same("LEAN", x.about(0), 9990);
        c.same("the room is 10", x.heel(40), 10);
        GrainShift y = Checks.loaded("r20", "c2,h40", "f30,t1");
        y.set(0, 1);
        y.set(1, -999);
        // D -600: 15 lie there; 20 would go.
        c.same("all go", y.heel(-40), 15);
        c.row("all", y, 0, "30 0");
        GrainShift z = Checks.loaded("r20,w1", "c2,h40", "f40,t1,k3");
        z.set(0, 1);
        z.set(1, 999);
        // FAST 290, D 600: 15 go; then 5 and 35: D 300: none.
        c.same("60, not more", z.heel(0), 15);
        c.row("60, not more", z, 0, "5 35");
    }

    private static void soup() {
        GrainShift x = Checks.loaded("r9,m10,l100", "c2,h10", "f10,t1");
        x.roll(10);
        c.same("at the line it is none", x.hold(0, 4), 0);
        c.same("it holds fast", x.hold(0, 5), 90);
        x.roll(0);
        c.same("a roll by 0 shakes nothing", x.hold(0, 4), 0);
        c.same("it becomes soup ahead of going", x.goes(1, 0) + x.goes(1, 1), 0);
        c.same("it becomes soup ahead of going", x.goes(2, 0), 1);
        x.roll(1);
        c.same("above it", x.hold(0, 4), 1);
        c.same("nothing holds", x.hold(0, 5), 0);
        GrainShift y = Checks.loaded("r9,m1,l0", "c2,h10", "f10,t1,k3");
        c.same("not shaken", y.hold(0, 4), 0);
        y.roll(1);
        c.same("LINE 0", y.hold(0, 4), 1);
        c.same("sacks hold no soup", y.hold(0, 5), 0);
        GrainShift z = Checks.loaded("r9,m0,l0", "c2,h10", "f10,t1");
        z.roll(40);
        c.same("never wet", z.hold(0, 4), 0);
    }

    private static void lost() {
        GrainShift x = Checks.loaded("r20", "c2,h10", "f0");
        x.set(0, 10);
        x.set(1, 24);
        c.same("roll", x.roll(1), 0);
        c.same("24 is not lost", x.about(3), 0);
        x.set(1, -25);
        c.same("only behind a roll", x.about(3), 0);
        c.same("roll", x.roll(1), 0);
        c.same("25 is", x.about(3), 1);
        c.same("no roll", x.roll(1), -1);
        c.same("no day", x.day(1), -1);
        c.same("TICKS", x.about(1), 2);
        x.set(2, 60);
        x.set(1, 0);
        c.same("lost she stays", x.about(3), 1);
        c.same("still no roll", x.roll(1), -1);
    }

    private static void days() {
        GrainShift x = new GrainShift();
        c.same("not loaded", x.day(0), -1);
        x = Checks.loaded("r20,s2", "c2,h10", "f10,t1");
        c.same("below 0", x.day(-1), -1);
        c.same("above 30", x.day(31), -1);
        for (int k = 1; k <= 4; k++) {
            c.same("day", x.day(30), k);
            c.same("SETTLED", x.hold(0, 2), Math.min(k, 2));
            c.same("TICKS", x.about(1), 4 * k);
        }
        c.same("DAYS", x.about(2), 4);
        x.set(0, 1);
        x.set(1, 9);
        c.same("lost in it, it counts", x.day(0), 5);
        c.same("one roll alone", x.about(1), 17);
        c.same("lost", x.about(3), 1);
        c.same("no more", x.day(0), -1);
    }

    private static void draws() {
        long[] seeds = {0, 1, -1, 5, Long.MAX_VALUE, Long.MIN_VALUE};
        for (long seed : seeds) {
            GrainShift x = new GrainShift();
            Checks.tell(x, 0, "r20");
            Checks.tell(x, 1, "c2");
            Checks.tell(x, 2, "f0");
            x.load(0, 0, seed);
            long state = seed;
            int shaken = 0;
            for (int day = 1; day <= 3; day++) {
                for (int k = 0; k < 4; k++) {
                    state = state * 6364136223846793005L + 1442695040888963407L;
                    shaken += 10 + (int) ((state >>> 33) % 6);
                }
                x.day(10);
                c.same("SHAKEN by seed " + seed, x.hold(0, 3), shaken);
                x.roll(0);
            }
        }
    }

    private static void severalHolds() {
        // The first hold goes over; the second rests with LEAN as it was ahead of both.
        GrainShift x = new GrainShift();
        Checks.tell(x, 0, "r0,w9");
        Checks.tell(x, 0, "r4,w1");
        Checks.tell(x, 1, "c2,h20;c2,h20");
        Checks.tell(x, 2, "f20,t1;g1,f20,t1");
        x.load(0, 0, 0);
        x.set(0, 9);
        x.set(2, 60);
        c.same("holds", x.about(4), 2);
        // Slope 4: hold 0: D 40: 2 go (8 12), then D 0. Hold 1: D 40, holds fast 40: none.
        c.same("heel(4)", x.heel(4), 2);
        c.row("hold 0", x, 0, "8 12");
        c.row("hold 1", x, 1, "10 10");
        c.same("LEAN 36 by 9", x.about(0), 4);
        c.same("all MOMENTS", x.about(5), 36);
        // Slope 4 again by LEAN alone; hold 0 rests (D 0). With 6: hold 1: D 60, one goes.
        c.same("heel(0)", x.heel(0), 0);
        c.same("heel(2)", x.heel(2), 2);
        c.row("hold 0", x, 0, "7 13");
        c.row("hold 1", x, 1, "9 11");
        c.same("LEAN 54 and 2 by 9", x.about(0), 6);
    }

    private static void looks() {
        GrainShift x = new GrainShift();
        c.same("not loaded", x.column(0, 0, 0), -1);
        c.same("not loaded", x.hold(0, 0), Checks.HIDDEN);
        c.same("not loaded", x.about(1), Checks.HIDDEN);
        x = Checks.loaded("r3,w4", "c3,h10", "f8,t1,k1");
        int[] hold = {8, -8, 0, 0, 0, 60, 70};
        for (int k = -1; k <= 7; k++) {
            c.same("hold(0, " + k + ")", x.hold(0, k), k >= 0 && k < 7 ? hold[k] : Checks.HIDDEN);
        }
        int[] about = {0, 0, 0, 0, 1, -8};
        for (int k = -1; k <= 6; k++) {
            c.same("about(" + k + ")", x.about(k), k >= 0 && k < 6 ? about[k] : Checks.HIDDEN);
        }
        c.same("no hold", x.hold(1, 0), Checks.HIDDEN);
        c.same("no hold", x.hold(-1, 0), Checks.HIDDEN);
        c.same("UNITS", x.column(0, 2, 0), 2);
        c.same("TALL", x.column(0, 2, 1), 20);
        c.same("no what", x.column(0, 2, 2), -1);
        c.same("no what", x.column(0, 2, -1), -1);
        c.same("no column", x.column(0, 3, 0), -1);
        c.same("no column", x.column(0, -1, 0), -1);
        c.same("no hold", x.column(1, 0, 0), -1);
        c.same("no hold", x.column(-1, 0, 0), -1);
        c.same("no hold", x.column(Integer.MAX_VALUE, Integer.MIN_VALUE, 0), -1);
    }
}
