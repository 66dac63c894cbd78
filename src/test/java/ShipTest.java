/** Part 2 and promises 9 to 15: settings, loading, rolls, days, and what is seen of her. */
public final class ShipTest {
    private static final Checks c = new Checks();

    public static void main(String[] args) {
        settings();
        whatCanBeLoaded();
        trimmed();
        poured();
        pouredOntoFullColumns();
        pouredToRest();
        loadedAnew();
        tall();
        soup();
        sweeps();
        restFromTheLeft();
        whatHoldsFast();
        whatLiesThere();
        boards();
        room();
        moments();
        lean();
        rolls();
        rollsOfTwoHolds();
        slopesAreHeld();
        lostAtTheLimit();
        days();
        lostWithinADay();
        draws();
        columns();
        holds();
        about();
        fiveHundredAndTwelveCalls();
        c.finish();
    }

    private static void settings() {
        int[][] bounds = {{1, 9999}, {-999, 999}, {1, 60}};
        c.part(2, "STIFF 1 .. 9,999 (400 at first), BALLAST -999 .. 999 (0).");
        GrainShift x = new GrainShift();
        c.same("STIFF at first", x.count(4), 400);
        c.same("BALLAST at first", x.count(5), 0);
        c.promise(9, "STIFF (what 0), BALLAST (1), LIMIT (2).");
        for (int what = 0; what < 3; what++) {
            for (int v : bounds[what]) {
                c.yes("set(" + what + ", " + v + ")", x.set(what, v));
                c.same("count(" + (4 + what) + ")", x.count(4 + what), v);
            }
        }
        c.promise(9, "False: no such what, out of bounds.");
        for (int what = 0; what < 3; what++) {
            int low = bounds[what][0];
            int high = bounds[what][1];
            for (int v : new int[] {low - 1, high + 1, Integer.MIN_VALUE, Integer.MAX_VALUE}) {
                c.no("set(" + what + ", " + v + ")", x.set(what, v));
            }
            c.same("as it was", x.count(4 + what), high);
        }
        for (int what : new int[] {-1, 3, Integer.MIN_VALUE, Integer.MAX_VALUE}) {
            c.no("set(" + what + ", 1)", x.set(what, 1));
        }
        for (int what = 0; what < 3; what++) {
            c.same("as it was", x.count(4 + what), bounds[what][1]);
        }
    }

    private static void whatCanBeLoaded() {
        c.part(2, "To LOAD a SHIP by a PLAN: as many HOLDS as LAYINGS, all STUFFS there, no more UNITS in any than COLUMNS times HEIGHT.");
        GrainShift x = new GrainShift();
        Checks.tell(x, 1, "c2,h5;c3,h4");
        Checks.tell(x, 1, "c12,h40");
        Checks.tell(x, 2, "f10;f12");
        c.no("no STUFF there", x.load(0, 0, 0));
        Checks.tell(x, 0, "r1");
        c.yes("full to the top", x.load(0, 0, 0));
        c.row("full to the top", x, 0, "5 5");
        c.row("full to the top", x, 1, "4 4 4");
        x.roll(1);
        for (String plan : new String[] {"f11;f0", "f0;f13", "f0;g1", "f480", "f1;f1;f1"}) {
            Checks.tell(x, 2, plan);
        }
        c.promise(10, "False: it can't be, no such ones.");
        for (int plan = 1; plan < 6; plan++) {
            c.no("load(0, " + plan + ")", x.load(0, plan, 0));
        }
        for (int[] b : new int[][] {{2, 0}, {-1, 0}, {0, 6}, {0, -1}, {1, 0}, {1, 5}, {3, 0},
            {Integer.MIN_VALUE, 0}, {0, Integer.MAX_VALUE}}) {
            c.no("load(" + b[0] + ", " + b[1] + ")", x.load(b[0], b[1], 0));
        }
        c.same("refused, she is as before", x.about(1), 1);
        c.row("as before", x, 0, "5 5");
        c.promise(10, "To LOAD.");
        c.yes("480 in 12 times 40", x.load(1, 4, 0));
        c.row("all full", x, 0, "40 40 40 40 40 40 40 40 40 40 40 40");
        Checks.tell(x, 0, "r2");
        c.yes("the second stuff is there now", x.load(0, 3, 0));
        c.same("loaded anew", x.about(1), 0);
    }

    private static void trimmed() {
        c.part(2, "UNITS of a hold: TRIMMED: one by one from COLUMN 0 on, going round.");
        c.row("none", Checks.loaded("r0", "c3,h9", "f0,t1"), 0, "0 0 0");
        c.row("one", Checks.loaded("r0", "c3,h9", "f1,t1"), 0, "1 0 0");
        c.row("once round", Checks.loaded("r0", "c3,h9", "f3,t1"), 0, "1 1 1");
        c.row("round", Checks.loaded("r0", "c3,h9", "f4,t1"), 0, "2 1 1");
        c.row("round", Checks.loaded("r0", "c3,h9", "f8,t1"), 0, "3 3 2");
        c.row("full", Checks.loaded("r0", "c3,h9", "f27,t1"), 0, "9 9 9");
    }

    /** REST 20 holds all fast, so what is poured stays where it came. */
    private static void pouredAs(String ship, String plan, String want) {
        c.row(ship + " by " + plan, Checks.loaded("r20", ship, plan), 0, want);
    }

    private static void poured() {
        c.part(2, "Poured: one by one onto the middle, by turns COLUMN (COLUMNS less 1) by 2 and COLUMNS by 2, both cut, that first");
        pouredAs("c4,h4", "f0", "0 0 0 0");
        pouredAs("c4,h4", "f1", "0 1 0 0");
        pouredAs("c4,h4", "f2", "0 1 1 0");
        pouredAs("c4,h4", "f7", "0 4 3 0");
        pouredAs("c2,h9", "f3", "2 1");
        pouredAs("c3,h9", "f3", "0 3 0");
        pouredAs("c5,h9", "f4", "0 0 4 0 0");
        pouredAs("c12,h4", "f3", "0 0 0 0 0 2 1 0 0 0 0 0");
        pouredAs("c11,h4", "f3", "0 0 0 0 0 3 0 0 0 0 0");
    }

    private static void pouredOntoFullColumns() {
        c.part(2, "(if it has HEIGHT UNITS, the nearest COLUMN that has not, of two as near the lower);");
        pouredAs("c4,h4", "f8", "0 4 4 0");
        pouredAs("c4,h4", "f9", "1 4 4 0");
        pouredAs("c4,h4", "f10", "1 4 4 1");
        pouredAs("c4,h4", "f15", "4 4 4 3");
        pouredAs("c4,h4", "f16", "4 4 4 4");
        pouredAs("c3,h4", "f4", "0 4 0");
        pouredAs("c3,h4", "f5", "1 4 0");
        pouredAs("c3,h4", "f8", "4 4 0");
        pouredAs("c3,h4", "f9", "4 4 1");
        pouredAs("c3,h4", "f12", "4 4 4");
        pouredAs("c2,h4", "f8", "4 4");
        // COLUMN 1 of 4 is full: 0 and 2 are as near, 2 is full as well; from 2 the nearest is 3.
        pouredAs("c4,h4", "f11", "2 4 4 1");
    }

    private static void pouredToRest() {
        c.part(2, "behind each one the hold goes to REST (3) with SLOPE 0, BOARD and SACKS being there.");
        // REST 0: the second on one column is 20 above its neighbours, 1 goes, first to the left.
        c.row("two on the middle", Checks.loaded("r0", "c3,h9", "f2"), 0, "1 1 0");
        c.row("three", Checks.loaded("r0", "c3,h9", "f3"), 0, "1 1 1");
        c.row("six", Checks.loaded("r0", "c3,h9", "f6"), 0, "2 2 2");
        // REST 2: a step of 4 (40 less 20 is 20) lets one go.
        c.row("a slope of rest", Checks.loaded("r2", "c3,h9", "f4"), 0, "1 3 0");
        c.row("and the other side", Checks.loaded("r2", "c3,h9", "f5"), 0, "1 3 1");
        // SACKS 1 are as 3 of REST: 2 of REST and these hold 5: 70 less 50 lets one go.
        c.row("sacks", Checks.loaded("r2", "c3,h9", "f6,k1"), 0, "0 6 0");
        c.row("sacks", Checks.loaded("r2", "c3,h9", "f7,k1"), 0, "1 6 0");
        GrainShift x = Checks.loaded("r0", "c3,h9", "f0");
        x.set(0, 1);
        x.set(1, 999);
        Checks.tell(x, 2, "f3");
        c.yes("load", x.load(0, 1, 0));
        c.row("with SLOPE 0, whatever LEAN is", x, 0, "1 1 1");
    }

    private static void loadedAnew() {
        c.part(2, "SETTLED, SHAKEN of a hold are 0, TICKS 0, DAYS 0.");
        GrainShift x = Checks.loaded("r0,s9,m1,l0", "c2,h10;c2,h10", "f10,t1;f4,t1");
        x.set(0, 1);
        x.set(2, 1);
        x.set(1, 1);
        x.day(5);
        c.same("lost", x.about(3), 1);
        c.same("SETTLED", x.hold(1, 2), 1);
        c.yes("load", x.load(0, 0, 7));
        c.row("load", x, 0, "5 5");
        c.row("load", x, 1, "2 2");
        c.same("TICKS", x.about(1), 0);
        c.same("DAYS", x.about(2), 0);
        c.same("not LOST", x.about(3), 0);
        for (int hold = 0; hold < 2; hold++) {
            c.same("SETTLED", x.hold(hold, 2), 0);
            c.same("SHAKEN", x.hold(hold, 3), 0);
        }
        c.same("settings stay", x.count(4), 1);
    }

    private static void tall() {
        c.part(2, "TALL of a COLUMN, in tenths: its UNITS times (100 less SETTLED) by 10, cut.");
        GrainShift x = Checks.loaded("r20,s1", "c2,h10", "f11,t1");
        c.same("not settled", x.column(0, 0, 1), 60);
        x.day(0);
        c.same("6 times 99 by 10", x.column(0, 0, 1), 59);
        c.same("5 times 99 by 10", x.column(0, 1, 1), 49);
        x.take(0, 0, 6);
        c.same("none", x.column(0, 0, 1), 0);
        GrainShift y = Checks.loaded("r20,s30", "c2,h40", "f79,t1");
        Checks.days(y, 31);
        c.same("40 times 70 by 10", y.column(0, 0, 1), 280);
        c.same("39 times 70 by 10", y.column(0, 1, 1), 273);
    }

    private static void soup() {
        c.part(2, "It is SOUP, if SHAKEN times WET is above LINE of its STUFF.");
        GrainShift x = Checks.loaded("r9,m10,l100", "c2,h10", "f10,t1");
        c.same("not shaken", x.hold(0, 4), 0);
        x.roll(10);
        c.same("at the line it is none", x.hold(0, 4), 0);
        x.roll(0);
        c.same("a roll by 0 shakes nothing", x.hold(0, 4), 0);
        x.image();
        x.roll(1);
        c.same("above it", x.hold(0, 4), 1);
        x.back();
        c.same("soup ahead of going: 10 of SLOPE", x.goes(1, 0) + x.goes(1, 1), 0);
        c.same("soup ahead of going: 20 of SLOPE", x.goes(2, 0), 1);
        GrainShift y = Checks.loaded("m1,l0", "c2,h10", "f10,t1");
        c.same("0 is not above LINE 0", y.hold(0, 4), 0);
        y.roll(1);
        c.same("1 is", y.hold(0, 4), 1);
        GrainShift z = Checks.loaded("m0,l0", "c2,h10", "f10,t1");
        z.roll(40);
        c.same("never by WET 0", z.hold(0, 4), 0);
        GrainShift w = Checks.loaded("m30,l999", "c2,h10", "f0");
        w.roll(33);
        c.same("990", w.hold(0, 4), 0);
        w.roll(1);
        c.same("1,020", w.hold(0, 4), 1);
        c.part(2, "HOLDS FAST: 0 of SOUP, else 10 times (REST and 3 times SACKS).");
        c.same("soup", w.hold(0, 5), 0);
        c.same("REST 0", Checks.loaded("r0", "c2", "f0").hold(0, 5), 0);
        c.same("REST 20", Checks.loaded("r20", "c2", "f0").hold(0, 5), 200);
        c.same("SACKS alone", Checks.loaded("r0", "c2", "f0,k1").hold(0, 5), 30);
        c.same("the most", Checks.loaded("r20", "c2", "f0,k3").hold(0, 5), 290);
        GrainShift v = Checks.loaded("r20,m1,l0", "c2", "f0,k3");
        v.roll(1);
        c.same("sacks hold no soup", v.hold(0, 5), 0);
    }

    private static void sweeps() {
        c.part(2, "(3) To REST with a SLOPE a: sweeps, 12 at most, till one in which none goes:");
        // Eleven sweeps leave 0 0 0 0 0 1 2 2 3 4 5 7, thirteen 0 0 0 0 0 0 1 2 3 5 6 7.
        GrainShift x = Checks.loaded("r0", "c12,h40", "f24,t1");
        x.heel(2);
        c.row("twelve", x, 0, "0 0 0 0 0 1 1 2 3 4 6 7");
        c.differ("what twelve left over goes the next time", x.heel(2), 0);
        // The first sweep leaves 9 9 12, the second 8 10 12, the third finds none.
        GrainShift y = Checks.loaded("r1", "c3,h20", "f30,t1");
        c.same("four in three sweeps", y.heel(4), 4);
        c.row("till none goes", y, 0, "8 10 12");
        c.same("none is left", y.heel(4), 0);
    }

    private static void restFromTheLeft() {
        c.part(2, "from the left for each two neighbours i, i and 1: D is TALL of i less that of i and 1 and 10 times a:");
        // From the right it would be 0 0 3 5 7 9 11 13, all at once 1 2 5 5 7 7 10 11.
        GrainShift x = Checks.loaded("r0", "c8,h40", "f48,t1");
        c.same("UNITS that went", x.heel(3), 82);
        c.row("from the left", x, 0, "0 1 2 5 7 9 11 13");
        c.part(2, "SLOPE (in the hold): above 0 its right side (greater numbers) is lower.");
        GrainShift y = Checks.loaded("r2", "c2,h10", "f10,t1");
        y.heel(4);
        c.row("to the right", y, 0, "4 6");
        GrainShift z = Checks.loaded("r2", "c2,h10", "f10,t1");
        z.heel(-4);
        c.row("to the left", z, 0, "6 4");
    }

    private static void whatHoldsFast() {
        c.part(2, "if D is above HOLDS FAST, (D less HOLDS FAST) by 20, cut, UNITS go from i to the next;");
        int[] right = {0, 0, 0, 0, 1, 1, 2, 2, 3, 3};
        for (int a = 0; a < right.length; a++) {
            c.same("first sweep of heel(" + a + ")", went(a), right[a]);
        }
        c.part(2, "if D is below 0 less HOLDS FAST, (0 less D less HOLDS FAST) by 20, cut, from the next to i.");
        for (int a = 0; a < right.length; a++) {
            c.same("first sweep of heel(-" + a + ")", went(-a), right[a]);
        }
        // SETTLED 1: two are 19 tall, not 20; three are 29, so that 9 are left over 20.
        GrainShift x = Checks.loaded("r0,s1", "c2,h10", "f0");
        x.day(0);
        x.pour(0, 0, 2);
        c.row("19 by 20 is none", x, 0, "2 0");
        x.pour(0, 0, 1);
        c.row("29 by 20 is one", x, 0, "2 1");
        GrainShift y = Checks.loaded("r0,s1", "c2,h10", "f0");
        y.day(0);
        y.pour(0, 1, 2);
        c.row("19 by 20 is none", y, 0, "0 2");
        y.pour(0, 1, 1);
        c.row("29 by 20 is one", y, 0, "1 2");
    }

    /** REST 2 and two columns alike; what goes levels 20 each, so a second sweep finds none of less than 20. */
    private static int went(int a) {
        return Checks.loaded("r2", "c2,h20", "f20,t1").heel(a);
    }

    private static void whatLiesThere() {
        c.part(2, "(4) Of these no more than lie there,");
        GrainShift x = Checks.loaded("r0", "c2,h40", "f30,t1");
        c.same("twenty would go, fifteen lie there", x.heel(40), 15);
        c.row("all", x, 0, "0 30");
        c.same("none lies there", x.heel(40), 0);
        c.same("back", x.heel(-40), 30);
        c.row("all", x, 0, "30 0");
        c.same("none lies there", x.heel(-40), 0);
    }

    private static void boards() {
        c.part(2, "between the two middle COLUMNS (with even COLUMNS, BOARD above 0) no more than lie above BOARD.");
        GrainShift x = Checks.loaded("r0", "c2,h30", "f40,t1,b18");
        c.same("two lie above 18", x.heel(40), 2);
        c.row("two lie above 18", x, 0, "18 22");
        c.same("none lies above", x.heel(40), 0);
        c.same("four of 22", x.heel(-40), 4);
        c.row("four of 22", x, 0, "22 18");
        c.same("as tall as the board", Checks.loaded("r0", "c2,h30", "f40,t1,b20").heel(40), 0);
        c.same("one above the board", Checks.loaded("r0", "c2,h30", "f40,t1,b19").heel(40), 1);
        c.same("far below the board", Checks.loaded("r0", "c2,h30", "f40,t1,b40").heel(-40), 0);
        c.same("BOARD 0 is none", Checks.loaded("r0", "c2,h30", "f20,t1,b0").heel(40), 10);
        c.same("BOARD 1 keeps one", Checks.loaded("r0", "c2,h30", "f20,t1,b1").heel(40), 9);
        c.same("less would go than lies above", Checks.loaded("r0", "c2,h30", "f20,t1,b1").heel(2), 1);
        GrainShift y = Checks.loaded("r0", "c3,h30", "f30,t1,b40");
        y.heel(40);
        c.row("odd columns have none", y, 0, "0 0 30");
        GrainShift z = Checks.loaded("r0", "c4,h30", "f40,t1,b40");
        z.heel(40);
        c.row("only in the middle", z, 0, "0 20 0 20");
        GrainShift w = Checks.loaded("r0", "c12,h40", "f12,t1,b1");
        w.heel(40);
        c.row("between 5 and 6 of 12, one stays on each way", w, 0, "0 0 0 0 0 1 0 0 0 0 0 11");
    }

    private static void room() {
        c.part(2, "(5) No more than there is room: TALL of a COLUMN is no more than 10 times HEIGHT.");
        GrainShift x = Checks.loaded("r0", "c2,h10", "f14,t1");
        c.same("three fit", x.heel(40), 3);
        c.row("to the top", x, 0, "4 10");
        c.same("no room", x.heel(40), 0);
        c.same("six fit", x.heel(-40), 6);
        c.row("to the top", x, 0, "10 4");
        c.same("full", Checks.loaded("r0", "c2,h4", "f8,t1").heel(40), 0);
        // SETTLED 1: TALL of 10 is 99, of 11 it is 108.
        GrainShift y = Checks.loaded("r0,s1", "c2,h10", "f12,t1");
        y.day(0);
        y.heel(40);
        c.row("no eleventh at 99 of a hundred", y, 0, "2 10");
        // SETTLED 30: TALL of 14 is 98, of 15 it is 105.
        GrainShift z = Checks.loaded("r20,s30", "c2,h10", "f18,t1");
        Checks.days(z, 31);
        z.heel(40);
        c.row("fourteen fit", z, 0, "4 14");
        // SETTLED 9: TALL of 11 is 100.1, cut; of 12 it is 109.
        GrainShift w = Checks.loaded("r0,s9", "c2,h10", "f14,t1,k3");
        Checks.days(w, 9);
        w.heel(40);
        c.row("eleven are 100, cut", w, 0, "3 11");
        // SETTLED 7: TALL of 13 is 120.9, cut; of 14 it is 130.
        GrainShift u = Checks.loaded("r0,s7", "c2,h12", "f16,t1,k3");
        Checks.days(u, 7);
        u.heel(40);
        c.row("thirteen are 120, cut", u, 0, "3 13");
        // SETTLED 10: TALL of 9 is 81, of 8 it is 72.
        GrainShift v = Checks.loaded("r0,s10", "c2,h8", "f10,t1,k3");
        Checks.days(v, 10);
        v.heel(40);
        c.row("no ninth at 81 of 80", v, 0, "2 8");
    }

    private static void moments() {
        c.part(2, "MOMENT of a COLUMN: UNITS times WEIGHT times (2 times its number and 1 less COLUMNS).");
        int[] twelve = {-11, -9, -7, -5, -3, -1, 1, 3, 5, 7, 9, 11};
        int[] three = {-2, 0, 2};
        for (int i = 0; i < 12; i++) {
            c.same("one in " + i + " of 12", momentOf("w1", "c12", i, 1), twelve[i]);
            c.same("four in " + i + " of 12", momentOf("w9", "c12", i, 4), 36 * twelve[i]);
        }
        for (int i = 0; i < 3; i++) {
            c.same("five in " + i + " of 3", momentOf("w2", "c3", i, 5), 10 * three[i]);
        }
        c.same("none", Checks.loaded("w9", "c12", "f0").hold(0, 1), 0);
        c.same("level", Checks.loaded("w9", "c12", "f12,t1").hold(0, 1), 0);
    }

    private static int momentOf(String stuff, String ship, int column, int units) {
        GrainShift x = Checks.loaded("r20," + stuff, ship, "f0,k3");
        x.pour(0, column, units);
        return x.hold(0, 1);
    }

    private static void lean() {
        c.part(2, "LEAN: (all MOMENTS and 10 times BALLAST) by STIFF, cut.");
        GrainShift x = Checks.calm();
        int[][] ballastAndLean = {{39, 0}, {40, 1}, {79, 1}, {80, 2}, {-39, 0}, {-40, -1}, {-79, -1}, {-80, -2}, {0, 0}};
        for (int[] b : ballastAndLean) {
            x.set(1, b[0]);
            c.same("LEAN of BALLAST " + b[0], x.about(0), b[1]);
        }
        x.set(0, 9999);
        x.set(1, 999);
        c.same("9,990 by 9,999", x.about(0), 0);
        x.set(0, 9990);
        c.same("9,990 by 9,990", x.about(0), 1);
        x.set(0, 1);
        c.same("9,990 by 1", x.about(0), 9990);
        // 3 of WEIGHT 4 in column 0 of 3: -24; 1 in column 1 of 2: 4.
        GrainShift y = Checks.loaded("r20,w4", "c3,h20;c2,h20", "f0,k3;f0,k3");
        y.pour(0, 0, 3);
        y.pour(1, 1, 1);
        c.same("all MOMENTS", y.about(5), -20);
        y.set(0, 10);
        c.same("-20 by 10", y.about(0), -2);
        y.set(1, 1);
        c.same("-10 by 10", y.about(0), -1);
        y.set(0, 11);
        c.same("-10 by 11", y.about(0), 0);
    }

    private static void rolls() {
        c.part(2, "A ROLL by a (0 .. 40): SHAKEN of each hold is more by a, TICKS by 1;");
        GrainShift x = Checks.loaded("r20,w1", "c2;c3", "f10,t1;f9,t1");
        c.same("roll(0)", x.roll(0), 0);
        c.same("SHAKEN", x.hold(0, 3), 0);
        c.same("TICKS", x.about(1), 1);
        c.same("no DAYS", x.about(2), 0);
        x.roll(40);
        c.same("SHAKEN", x.hold(0, 3), 40);
        c.same("SHAKEN", x.hold(1, 3), 40);
        c.same("TICKS", x.about(1), 2);
        c.promise(11, "A ROLL: UNITS that went (both ways together).");
        // 10 10 10, slope 3, FAST 10: one goes 0 to 1 (D 30), one 1 to 2 (D 40): 9 10 11. Then slope -3:
        // D -40: one back: 10 9 11; D -50: 2 back: 10 11 9; in the second sweep D -40: one more: 11 10 9.
        GrainShift y = Checks.loaded("r1,w3", "c3,h20", "f30,t1");
        c.same("roll(3)", y.roll(3), 2 + 1 + 2 + 1);
        c.row("roll(3)", y, 0, "11 10 9");
        c.promise(11, "NONE: not loaded, LOST, out of bounds.");
        for (int a : new int[] {-1, 41, Integer.MIN_VALUE, Integer.MAX_VALUE}) {
            c.same("roll(" + a + ")", y.roll(a), -1);
        }
        c.same("TICKS as before", y.about(1), 1);
        c.same("SHAKEN as before", y.hold(0, 3), 3);
        c.same("not loaded", new GrainShift().roll(0), -1);
        c.same("LOST", Checks.lost().roll(0), -1);
    }

    private static void rollsOfTwoHolds() {
        c.part(2, "then all holds go to REST with SLOPE LEAN and a (LEAN as it is ahead of all holds), then all with SLOPE LEAN less a (LEAN as it is then).");
        // Slope 2: one goes in each: 9 11 and 9 11; LEAN 6; slope 4: D 20: one in each: 8 12 and 8 12.
        GrainShift x = new GrainShift();
        Checks.tell(x, 0, "r0,w2");
        Checks.tell(x, 0, "r0,w1");
        Checks.tell(x, 1, "c2,h20;c2,h20");
        Checks.tell(x, 2, "f20,t1;g1,f20,t1");
        x.load(0, 0, 0);
        x.set(0, 1);
        c.same("roll(2)", x.roll(2), 4);
        c.row("hold 0", x, 0, "8 12");
        c.row("hold 1", x, 1, "8 12");
        c.same("LEAN", x.about(0), 12);
        // First to the right, then to the left, so that the end is to the left.
        GrainShift y = Checks.loaded("r2,w1", "c2,h10", "f10,t1");
        c.same("roll(5)", y.roll(5), 1 + 2);
        c.row("roll(5)", y, 0, "6 4");
    }

    private static void slopesAreHeld() {
        c.part(2, "SLOPES are held within -60 .. 60.");
        // FAST 290. 60: D 600, 15 go, then 5 35 with D 300: none. 61 would leave 4 36.
        for (int ballast : new int[] {6, 7, 999}) {
            GrainShift x = Checks.loaded("r20,w1", "c2,h40", "f40,t1,k3");
            x.set(0, 1);
            x.set(1, ballast);
            c.same("heel(0) with LEAN " + x.about(0), x.heel(0), 15);
            c.row("to the right", x, 0, "5 35");
        }
        for (int ballast : new int[] {-6, -7, -999}) {
            GrainShift x = Checks.loaded("r20,w1", "c2,h40", "f40,t1,k3");
            x.set(0, 1);
            x.set(1, ballast);
            c.same("heel(0) with LEAN " + x.about(0), x.heel(0), 15);
            c.row("to the left", x, 0, "35 5");
        }
        GrainShift y = Checks.loaded("r20,w1", "c2,h40", "f40,t1,k3");
        y.set(0, 10);
        y.set(1, 59);
        c.same("59: D 590", y.heel(0), 15);
        GrainShift z = Checks.loaded("r20,w1", "c2,h40", "f40,t1,k3");
        z.set(0, 10);
        z.set(1, 58);
        c.same("58: D 580", z.heel(0), 14);
        // Both slopes of a roll: LEAN 9,990 and 40 is 60, less 40 is 60 as well.
        GrainShift w = Checks.loaded("r20,w1", "c2,h40", "f40,t1,k3");
        w.set(0, 1);
        w.set(1, 999);
        c.same("roll(40)", w.roll(40), 15);
        c.row("roll(40)", w, 0, "5 35");
    }

    /** With STIFF 10 and no grain LEAN is BALLAST. */
    private static int lostBy(int lean, int limit) {
        GrainShift x = Checks.calm();
        x.set(0, 10);
        x.set(1, lean);
        x.set(2, limit);
        c.same("only behind a ROLL", x.about(3), 0);
        x.roll(0);
        return x.about(3);
    }

    private static void lostAtTheLimit() {
        c.part(2, "She is LOST if LEAN (without sign) is LIMIT (1 .. 60; 25 at first) or more behind a ROLL; then no ROLLS, no DAYS any more.");
        c.same("LIMIT at first", new GrainShift().count(6), 25);
        for (int limit : new int[] {1, 25, 60}) {
            c.same("less than " + limit, lostBy(limit - 1, limit), 0);
            c.same("just " + limit, lostBy(limit, limit), 1);
            c.same("more than " + limit, lostBy(limit + 1, limit), 1);
            c.same("less than " + limit, lostBy(1 - limit, limit), 0);
            c.same("just " + limit, lostBy(-limit, limit), 1);
            c.same("far more than " + limit, lostBy(-999, limit), 1);
        }
        GrainShift x = Checks.lost();
        c.same("lost", x.about(3), 1);
        c.same("no ROLL", x.roll(1), -1);
        c.same("no DAY", x.day(1), -1);
        x.set(2, 60);
        x.set(1, 0);
        c.same("LEAN is 0 again", x.about(0), 0);
        c.same("LOST she stays", x.about(3), 1);
        c.same("no ROLL", x.roll(1), -1);
        c.same("no DAY", x.day(1), -1);
        c.same("TICKS", x.about(1), 1);
        c.same("DAYS", x.about(2), 0);
        c.same("SHAKEN", x.hold(0, 3), 0);
    }

    private static void days() {
        c.part(2, "A DAY by a SEA (0 .. 30): SETTLED of each hold is 1 more, if that is below SETTLES of its STUFF;");
        int[] settles = {0, 1, 2, 30};
        for (int most : settles) {
            GrainShift x = Checks.loaded("r20,s" + most, "c2;c3", "f10,t1;f9,t1");
            for (int day = 1; day <= 32; day++) {
                x.day(0);
                c.same("SETTLED on day " + day, x.hold(0, 2), Math.min(day, most));
            }
            c.same("the other hold", x.hold(1, 2), most);
        }
        c.promise(12, "A DAY: how many there were.");
        GrainShift y = Checks.calm();
        c.same("day(0)", y.day(0), 1);
        c.same("day(30)", y.day(30), 2);
        y.roll(3);
        c.same("a ROLL is no DAY", y.day(1), 3);
        c.same("DAYS", y.about(2), 3);
        c.promise(12, "NONE: not loaded, LOST, out of bounds.");
        for (int sea : new int[] {-1, 31, Integer.MIN_VALUE, Integer.MAX_VALUE}) {
            c.same("day(" + sea + ")", y.day(sea), -1);
        }
        c.same("DAYS as before", y.about(2), 3);
        c.same("TICKS as before", y.about(1), 13);
        c.same("not loaded", new GrainShift().day(0), -1);
        c.same("LOST", Checks.lost().day(0), -1);
    }

    private static void lostWithinADay() {
        c.part(2, "then four ROLLS by SEA and a draw of 6 together (each with its own draw; none any more when she is LOST).");
        // Draws of seed 0 are 5 0 1 4.
        GrainShift x = Checks.calm();
        x.day(10);
        c.same("TICKS", x.about(1), 4);
        c.same("SHAKEN by 15 10 11 14", x.hold(0, 3), 50);
        x.set(0, 1);
        x.set(1, 9);
        c.same("LOST by the first, the DAY counts", x.day(0), 2);
        c.same("TICKS", x.about(1), 5);
        c.same("SHAKEN by 5 more", x.hold(0, 3), 55);
        // SHAKEN 15 25 36: above 30 it is soup, and a list of 4 runs away with her.
        GrainShift y = Checks.loaded("r20,m1,l30,w9", "c2,h20", "f20,t1");
        y.set(0, 9);
        y.set(1, 4);
        y.set(2, 10);
        c.same("LOST by the third", y.day(10), 1);
        c.same("LOST", y.about(3), 1);
        c.same("TICKS", y.about(1), 3);
        c.same("SHAKEN", y.hold(0, 3), 36);
    }

    private static void draws() {
        c.part(2, "A draw of 6: x, at first the seed, becomes x times 6364136223846793005 and 1442695040888963407 (64 bits, going round); then (x shifted right by 33, without sign) modulo 6.");
        long[] seeds = {0, 1, 5, -1, Long.MAX_VALUE, Long.MIN_VALUE};
        // Worked out with numbers of any length; what a day of draws comes to.
        int[][] byDay = {{10, 17, 4}, {5, 11, 14}, {14, 12, 5}, {12, 13, 13}, {4, 9, 7}, {12, 7, 12}};
        for (int k = 0; k < seeds.length; k++) {
            GrainShift x = Checks.calm();
            x.load(0, 0, seeds[k]);
            int shaken = 0;
            for (int draws : byDay[k]) {
                x.day(20);
                x.roll(0);
                shaken += 80 + draws;
                c.same("SHAKEN by seed " + seeds[k], x.hold(0, 3), shaken);
            }
        }
    }

    private static void columns() {
        c.promise(13, "UNITS of a COLUMN (what 0), TALL (1).");
        GrainShift x = Checks.loaded("r3,w4", "c3,h10;c12,h4", "f8,t1,k1;f48");
        c.same("UNITS", x.column(0, 2, 0), 2);
        c.same("TALL", x.column(0, 2, 1), 20);
        c.same("UNITS", x.column(1, 11, 0), 4);
        c.same("TALL", x.column(1, 0, 1), 40);
        c.promise(13, "NONE: no such ones, not loaded.");
        for (int[] b : new int[][] {{0, 2, 2}, {0, 2, -1}, {0, 3, 0}, {0, 3, 1}, {0, -1, 0}, {1, 12, 0}, {2, 0, 0},
            {-1, 0, 0}, {4, 0, 0}, {Integer.MAX_VALUE, Integer.MIN_VALUE, 0}}) {
            c.same("column(" + b[0] + ", " + b[1] + ", " + b[2] + ")", x.column(b[0], b[1], b[2]), -1);
        }
        c.same("not loaded", new GrainShift().column(0, 0, 0), -1);
        c.same("a LOST one is seen", Checks.lost().column(0, 0, 0), 0);
    }

    private static void holds() {
        c.promise(14, "Of a hold: 0 UNITS, 1 MOMENT, 2 SETTLED, 3 SHAKEN, 4 SOUP (1, 0), 5 HOLDS FAST, 6 GAP (10 times HEIGHT less the greatest TALL).");
        GrainShift x = Checks.loaded("r3,s2,m1,l4,w4", "c3,h10;c2,h4", "f8,t1,k1;f8");
        int[] first = {8, -8, 0, 0, 0, 60, 70};
        int[] second = {8, 0, 0, 0, 0, 30, 0};
        for (int what = 0; what < 7; what++) {
            c.same("hold(0, " + what + ")", x.hold(0, what), first[what]);
            c.same("hold(1, " + what + ")", x.hold(1, what), second[what]);
        }
        x.day(0);
        // Draws 5 0 1 4; SETTLED 1: TALL of 4 is 39, and a fifth would be 49 of 40.
        int[] then = {8, 0, 1, 10, 1, 0, 1};
        for (int what = 0; what < 7; what++) {
            c.same("hold(1, " + what + ") then", x.hold(1, what), then[what]);
        }
        for (int column = 0; column < 3; column++) {
            GrainShift y = Checks.loaded("r20", "c3,h20", "f3,t1");
            y.pour(0, column, 5);
            c.same("the greatest TALL in " + column, y.hold(0, 6), 200 - 60);
        }
        GrainShift z = Checks.loaded("r20", "c12,h4", "f0");
        z.pour(0, 11, 3);
        c.same("the greatest TALL in the last of more columns than it is high", z.hold(0, 6), 10);
        c.same("GAP of none", Checks.loaded("r3", "c3,h40", "f0").hold(0, 6), 400);
        c.promise(14, "HIDDEN: no such ones, not loaded.");
        for (int[] b : new int[][] {{0, -1}, {0, 7}, {2, 0}, {-1, 0}, {4, 0}, {Integer.MAX_VALUE, 0},
            {0, Integer.MIN_VALUE}}) {
            c.same("hold(" + b[0] + ", " + b[1] + ")", x.hold(b[0], b[1]), Checks.HIDDEN);
        }
        c.same("not loaded", new GrainShift().hold(0, 0), Checks.HIDDEN);
        c.same("a LOST one is seen", Checks.lost().hold(0, 5), 200);
    }

    private static void about() {
        c.promise(15, "Of her: 0 LEAN, 1 TICKS, 2 DAYS, 3 LOST (1, 0), 4 holds, 5 all MOMENTS.");
        // MOMENTS -9 of 2 1, 0 of 1 1 1, -27 of 1 1 1 0 and -54 of 1 1 1 0 0.
        GrainShift x = Checks.loaded("r20,w9", "c2;c3;c4;c5", "f3,t1;f3,t1;f3,t1;f3,t1");
        int[] fresh = {0, 0, 0, 0, 4, -90};
        for (int what = 0; what < 6; what++) {
            c.same("about(" + what + ")", x.about(what), fresh[what]);
        }
        x.day(0);
        x.set(0, 3);
        int[] then = {-30, 4, 1, 0, 4, -90};
        for (int what = 0; what < 6; what++) {
            c.same("about(" + what + ") behind a day", x.about(what), then[what]);
        }
        x.roll(0);
        c.same("TICKS", x.about(1), 5);
        c.same("LOST", x.about(3), 1);
        c.promise(15, "HIDDEN: no such what, not loaded.");
        for (int what : new int[] {-1, 6, Integer.MIN_VALUE, Integer.MAX_VALUE}) {
            c.same("about(" + what + ")", x.about(what), Checks.HIDDEN);
        }
        for (int what = 0; what < 6; what++) {
            c.same("not loaded", new GrainShift().about(what), Checks.HIDDEN);
        }
    }

    private static void fiveHundredAndTwelveCalls() {
        c.part(0, "An object is used for at most 512 calls after it has been made;");
        GrainShift x = Checks.loaded("r20,s30,m30,l999", "c12,h40", "f480,t1");
        for (int k = 10; k < 510; k++) {
            c.same("day", x.day(30), k - 9);
        }
        c.same("TICKS, the 511th call", x.about(1), 2000);
        c.same("soup, the 512th call", x.hold(0, 4), 1);
    }
}
