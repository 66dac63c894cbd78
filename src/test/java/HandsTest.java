/** Promises 32 to 40: images, trimming, pouring, taking, heeling, tilting, ripening, sliding. */
public final class HandsTest {
    private static final Checks c = new Checks();

    public static void main(String[] args) {
        refusedWithoutHer();
        images();
        imageOfAnotherShip();
        imageKeepsDraws();
        trim();
        pour();
        pourOnASlope();
        take();
        heel();
        tilt();
        ripens();
        slide();
        c.finish();
    }

    private static void refusedWithoutHer() {
        GrainShift none = new GrainShift();
        c.same("image", none.image(), -1);
        c.same("back", none.back(), -1);
        GrainShift lost = Checks.loaded("r2,w1,m1,l0", "c2,h10", "f10,t1");
        lost.set(0, 1);
        lost.set(1, 99);
        lost.roll(0);
        for (GrainShift x : new GrainShift[] {none, lost}) {
            c.same("trim", x.trim(0, 1), -1);
            c.same("pour", x.pour(0, 0, 1), -1);
            c.same("take", x.take(0, 0, 1), -1);
            c.same("heel", x.heel(1), -1);
            c.same("ripens", x.ripens(0, 1), -1);
            c.same("slide", x.slide(0, 1), -1);
        }
        c.same("an image of the lost", lost.image(), 1);
        c.same("tilt asks for no ship", lost.tilt(0, 2, 5), 4);
    }

    private static void images() {
        GrainShift x = Checks.loaded("r0,s9,w1", "c2,h10", "f10,t1");
        c.same("loaded, no image", x.back(), -1);
        x.set(0, 2);
        x.day(3);
        int lean = x.about(0);
        String row = Checks.row(x, 0);
        int shaken = x.hold(0, 3);
        c.same("image", x.image(), 4);
        x.set(1, 500);
        x.day(3);
        c.same("lost", x.about(3), 1);
        c.same("back", x.back(), 4);
        c.same("not lost", x.about(3), 0);
        c.row("UNITS", x, 0, row);
        c.same("SHAKEN", x.hold(0, 3), shaken);
        c.same("SETTLED", x.hold(0, 2), 1);
        c.same("DAYS", x.about(2), 1);
        c.same("BALLAST is not hers", x.count(5), 500);
        x.set(1, 0);
        c.same("LEAN", x.about(0), lean);
        x.roll(1);
        c.same("back again", x.back(), 4);
        x.roll(1);
        c.same("instead of the one ahead", x.image(), 5);
        x.roll(1);
        c.same("back to that", x.back(), 5);
    }

    private static void imageOfAnotherShip() {
        GrainShift x = new GrainShift();
        Checks.tell(x, 0, "r3,w4");
        Checks.tell(x, 0, "r7,w1");
        Checks.tell(x, 1, "c2,h10;c3,h9");
        Checks.tell(x, 1, "c4,h8");
        Checks.tell(x, 2, "f6,t1,k1;f2,t1");
        Checks.tell(x, 2, "g1,f5,t1");
        x.load(0, 0, 1);
        c.same("image", x.image(), 0);
        x.load(1, 1, 1);
        x.roll(1);
        c.same("holds", x.about(4), 1);
        c.same("HOLDS FAST", x.hold(0, 5), 70);
        c.same("back", x.back(), 0);
        c.same("holds", x.about(4), 2);
        c.same("HOLDS FAST", x.hold(0, 5), 60);
        c.same("GAP", x.hold(0, 6), 70);
        c.row("0", x, 0, "3 3");
        c.row("1", x, 1, "1 1 0");
        c.no("refused", x.load(0, 1, 1));
        c.same("the image is there yet", x.back(), 0);
    }

    private static void imageKeepsDraws() {
        GrainShift x = Checks.loaded("r20", "c2", "f0");
        x.day(0);
        x.image();
        x.day(0);
        x.day(0);
        int shaken = x.hold(0, 3);
        x.back();
        x.day(0);
        x.day(0);
        c.same("the same draws", x.hold(0, 3), shaken);
    }

    private static void trim() {
        GrainShift x = Checks.loaded("r20", "c4,h10", "f10");
        c.row("poured", x, 0, "0 5 5 0");
        c.same("once", x.trim(0, 1), 1);
        c.row("of several the lowest", x, 0, "1 4 5 0");
        c.same("twice", x.trim(0, 2), 2);
        c.row("twice: 1 4 4 1, 2 3 4 1", x, 0, "2 3 4 1");
        c.same("till they differ by less", x.trim(0, 99), 1);
        c.row("level", x, 0, "2 3 3 2");
        c.same("none", x.trim(0, 99), 0);
        c.same("no hold", x.trim(1, 1), -1);
        c.same("no hold", x.trim(-1, 1), -1);
        c.same("no times", x.trim(0, 0), -1);
        c.same("no times", x.trim(0, 100), -1);
        c.same("no TICKS", x.about(1), 0);
        GrainShift y = Checks.loaded("r20", "c2,h10", "f10,t1,b9");
        y.take(0, 0, 4);
        c.same("boards don't matter", y.trim(0, 5), 2);
        c.row("boards don't matter", y, 0, "3 3");
    }

    private static void pour() {
        GrainShift x = Checks.loaded("r20", "c2,h10", "f10,t1");
        c.same("one", x.pour(0, 0, 1), 1);
        c.row("one", x, 0, "6 5");
        c.same("to the top", x.pour(0, 0, 99), 4);
        c.row("to the top", x, 0, "10 5");
        c.same("none", x.pour(0, 0, 5), 0);
        for (int[] b : new int[][] {{1, 0, 1}, {-1, 0, 1}, {0, 2, 1}, {0, -1, 1}, {0, 0, 0}, {0, 0, 100}}) {
            c.same("no such ones", x.pour(b[0], b[1], b[2]), -1);
        }
        GrainShift y = Checks.loaded("r0", "c3,h9", "f0");
        c.same("each goes to rest", y.pour(0, 0, 4), 4);
        c.row("each goes to rest", y, 0, "2 1 1");
        // SETTLED 30: 14 are 98 of 100.
        GrainShift z = Checks.loaded("r20,s30", "c2,h10", "f20,t1,k3");
        for (int k = 0; k < 30; k++) {
            z.day(0);
        }
        c.same("room by TALL", z.pour(0, 1, 9), 4);
        c.same("more than COLUMNS times HEIGHT", z.pour(0, 0, 9) + z.hold(0, 0), 32);
    }

    private static void pourOnASlope() {
        // WEIGHT 9, STIFF 1: the first on the right leans her by 9: D (0 - 10 + 90 = 80).
        GrainShift x = Checks.loaded("r20,w9", "c2,h10", "f0");
        x.set(0, 1);
        x.set(1, -9);
        // On the right: MOMENT 9, LEAN -81, held -60: D -10 -600: (610 - 200) by 20: all there is goes left.
        c.same("pour", x.pour(0, 1, 1), 1);
        c.row("it slid over", x, 0, "1 0");
        c.same("not lost behind it", x.about(3), 0);
        c.same("LEAN", x.about(0), -99);
        GrainShift y = Checks.loaded("r2,w5", "c2,h20", "f0");
        y.set(0, 5);
        // LEAN -1, -2, -3 of then: nothing makes them go right.
        c.same("pour", y.pour(0, 0, 3), 3);
        c.row("a lean to the same side", y, 0, "3 0");
    }

    private static void take() {
        GrainShift x = Checks.loaded("r20", "c2,h10", "f10,t1");
        c.same("some", x.take(0, 0, 2), 2);
        c.row("some", x, 0, "3 5");
        c.same("as many as are there", x.take(0, 0, 99), 3);
        c.same("none there", x.take(0, 0, 1), 0);
        c.row("none there", x, 0, "0 5");
        for (int[] b : new int[][] {{1, 0, 1}, {-1, 0, 1}, {0, 2, 1}, {0, -1, 1}, {0, 1, 0}, {0, 1, 100}}) {
            c.same("no such ones", x.take(b[0], b[1], b[2]), -1);
        }
        c.row("refused", x, 0, "0 5");
        // REST 2: 5 5, two taken: 3 5: D -20: none; three more: 0 5: D -50: one comes back.
        GrainShift y = Checks.loaded("r2", "c2,h10", "f10,t1");
        c.same("take", y.take(0, 0, 5), 5);
        c.row("it goes to rest behind", y, 0, "1 4");
        // By LEAN as it is behind the taking: WEIGHT 9, STIFF 1: 4 5: LEAN 9.
        GrainShift z = Checks.loaded("r9,w9", "c2,h10", "f10,t1");
        z.set(0, 1);
        c.same("take", z.take(0, 0, 2), 2);
        // 3 5: LEAN 18: D -20 + 180 = 160 less 90: 3 go.
        c.row("LEAN of then", z, 0, "0 8");
        c.same("not lost behind it", z.about(3), 0);
    }

    private static void heel() {
        GrainShift x = Checks.loaded("r2,w1", "c2,h10", "f10,t1");
        c.same("to the left", x.heel(-5), 1);
        c.row("to the left", x, 0, "6 4");
        c.same("out of bounds", x.heel(41), -1);
        c.same("out of bounds", x.heel(-41), -1);
        c.same("no TICK", x.about(1), 0);
        c.same("not SHAKEN", x.hold(0, 3), 0);
        x.set(0, 1);
        x.set(2, 9);
        // LEAN -2 less 10: D 20 - 120 = -100: 4 go: 10 0: LEAN -10.
        c.same("lost by it", x.heel(-10), 4);
        c.same("lost", x.about(3), 1);
        c.same("no more", x.heel(0), -1);
        GrainShift y = Checks.loaded("r2,w1", "c2,h10", "f10,t1");
        c.same("the most", y.heel(40), 5);
        c.same("the most", y.heel(-40), 10);
    }

    private static void tilt() {
        GrainShift x = new GrainShift();
        Checks.tell(x, 0, "r0");
        Checks.tell(x, 0, "r20,m30,l0");
        c.same("REST 0", x.tilt(0, 2, 1), 2);
        c.same("REST 20, not shaken", x.tilt(1, 12, 39), 22);
        c.same("no room", x.tilt(0, 5, 40), -1);
        for (int[] b : new int[][] {{2, 2, 1}, {-1, 2, 1}, {0, 1, 1}, {0, 13, 1}, {0, 2, 0}, {0, 2, 41}}) {
            c.same("no such ones", x.tilt(b[0], b[1], b[2]), -1);
        }
        GrainShift y = Checks.loaded("r2", "c2,h10", "f10,t1,k3");
        c.same("no sacks", y.tilt(0, 2, 5), 4);
        c.row("apart from her", y, 0, "5 5");
    }

    private static void ripens() {
        GrainShift x = Checks.loaded("m2,l100", "c2,h10", "f10,t1");
        c.same("51 are needed", x.ripens(0, 1), 51);
        c.same("by 25: 50 is none", x.ripens(0, 25), 3);
        c.same("by 40", x.ripens(0, 40), 2);
        x.roll(11);
        c.same("40 more", x.ripens(0, 40), 1);
        c.same("by 39", x.ripens(0, 39), 2);
        x.roll(40);
        c.same("it is", x.ripens(0, 1), 0);
        c.same("dry", Checks.loaded("m0,l0", "c2", "f0").ripens(0, 40), -1);
        c.same("999 rolls are not enough", Checks.loaded("m1,l999", "c2", "f0").ripens(0, 1), -1);
        GrainShift y = Checks.loaded("m1,l999", "c2", "f0");
        y.roll(1);
        c.same("the 999th", y.ripens(0, 1), 999);
        for (int[] b : new int[][] {{1, 1}, {-1, 1}, {0, 0}, {0, 41}}) {
            c.same("no such ones", y.ripens(b[0], b[1]), -1);
        }
        c.same("SHAKEN as it was", y.hold(0, 3), 1);
    }

    private static void slide() {
        GrainShift x = Checks.loaded("r1,w3", "c3,h20", "f30,t1");
        // As in ShipTest a roll by 3 leaves 11 10 9.
        c.same("fewer in 2", x.slide(0, 3), 4);
        c.row("apart from her", x, 0, "10 10 10");
        c.same("none", x.slide(0, 2), 0);
        for (int[] b : new int[][] {{1, 1}, {-1, 1}, {0, -1}, {0, 41}}) {
            c.same("no such ones", x.slide(b[0], b[1]), -1);
        }
        GrainShift y = Checks.loaded("r0,w1", "c12,h40", "f400");
        int bits = 0;
        String[] was = Checks.row(y, 0).split(" ");
        int said = y.slide(0, 40);
        y.roll(40);
        String[] is = Checks.row(y, 0).split(" ");
        for (int i = 0; i < 12; i++) {
            bits |= Integer.parseInt(is[i]) < Integer.parseInt(was[i]) ? 1 << i : 0;
        }
        c.same("as the roll does", said, bits);
        c.same("some", bits > 0 ? 1 : 0, 1);
    }
}
