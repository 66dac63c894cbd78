import java.math.BigInteger;

/** Part 5 and promises 28 to 31: cells, cans, refusing. */
public final class HeapTest {
    private static final Checks c = new Checks();

    public static void main(String[] args) {
        cells();
        miss();
        missOfEveryHeap();
        missIsRefused();
        enough();
        refuse();
        c.finish();
    }

    /** Cells of 10 and then cells of 11; the bound is 10. */
    private static GrainShift heap(int dry, int wet) {
        GrainShift x = new GrainShift();
        for (int k = 0; k < dry; k++) {
            x.heap(10);
        }
        for (int k = 0; k < wet; k++) {
            x.heap(11);
        }
        return x;
    }

    private static void cells() {
        c.part(5, "A HEAP of CELLS (60 at most): how WET each is.");
        GrainShift x = new GrainShift();
        c.promise(28, "A CELL of the HEAP (wet 0 .. 99): how many there are.");
        for (int k = 1; k <= 60; k++) {
            c.same("cell", x.heap(k % 2 == 0 ? 0 : 99), k);
        }
        c.promise(28, "NONE: out of bounds, there are 60.");
        c.same("60 are there", x.heap(5), -1);
        c.same("count", x.count(9), 60);
        c.same("30 of 60 are 0", x.miss(1, 0), 500000);
        c.same("30 of 60 are 99", x.miss(1, 98), 500000);
        c.same("all", x.miss(1, 99), 1000000);
        GrainShift y = new GrainShift();
        for (int wet : new int[] {-1, 100, Integer.MIN_VALUE, Integer.MAX_VALUE}) {
            c.same("heap(" + wet + ")", y.heap(wet), -1);
        }
        c.same("count", y.count(9), 0);
    }

    private static void miss() {
        c.part(5, "CANS (1 .. 10) are taken from as many CELLS, any as likely; MISS of a bound: how likely none of these is above it, in parts of 10 to the 6, cut (0 if none is possible so).");
        c.promise(29, "MISS.");
        GrainShift x = heap(59, 1);
        c.same("59 of 60", x.miss(1, 10), 983333);
        c.same("50 of 60", x.miss(10, 10), 833333);
        c.same("at the bound is not above it", x.miss(10, 11), 1000000);
        c.same("all are above", x.miss(1, 9), 0);
        GrainShift y = heap(30, 30);
        // C(30, 10) = 30,045,015 of C(60, 10) = 75,394,027,566.
        c.same("ten of 60", y.miss(10, 10), 398);
        c.same("two of 60", y.miss(2, 10), 245762);
        GrainShift z = heap(4, 1);
        c.same("all dry ones", z.miss(4, 10), 200000);
        c.same("more than there are dry ones", z.miss(5, 10), 0);
        c.same("two thirds, cut", heap(2, 1).miss(1, 10), 666666);
        c.same("a single dry one", heap(1, 0).miss(1, 10), 1000000);
        c.same("a single wet one", heap(0, 1).miss(1, 10), 0);
    }

    private static void missOfEveryHeap() {
        for (int size = 1; size <= 60; size += 1 + size / 9) {
            for (int dry = 0; dry <= size; dry++) {
                GrainShift x = heap(dry, size - dry);
                for (int cans = 1; cans <= Math.min(10, size); cans++) {
                    BigInteger none = BigInteger.valueOf(1000000);
                    BigInteger all = BigInteger.ONE;
                    for (int k = 0; k < cans; k++) {
                        none = none.multiply(BigInteger.valueOf(Math.max(0, dry - k)));
                        all = all.multiply(BigInteger.valueOf(size - k));
                    }
                    c.same(cans + " cans, " + dry + " of " + size, x.miss(cans, 10), none.divide(all).intValue());
                }
            }
        }
    }

    private static void missIsRefused() {
        c.promise(29, "NONE: more CANS than CELLS, no such ones (bound 0 .. 99).");
        c.same("no CELLS", new GrainShift().miss(1, 50), -1);
        c.same("five of five", heap(4, 1).miss(5, 10), 0);
        c.same("six of five", heap(4, 1).miss(6, 10), -1);
        GrainShift x = heap(12, 0);
        c.same("ten", x.miss(10, 10), 1000000);
        c.same("bound 0", x.miss(1, 0), 0);
        c.same("bound 99", x.miss(1, 99), 1000000);
        for (int[] b : new int[][] {{11, 10}, {0, 10}, {-1, 10}, {1, -1}, {1, 100}, {Integer.MIN_VALUE, 5},
            {Integer.MAX_VALUE, 5}, {1, Integer.MIN_VALUE}, {1, Integer.MAX_VALUE}}) {
            c.same("miss(" + b[0] + ", " + b[1] + ")", x.miss(b[0], b[1]), -1);
        }
    }

    private static void enough() {
        c.part(5, "ENOUGH: the fewest CANS with MISS no more than so many parts (none of 10).");
        GrainShift x = heap(2, 2);
        // 500,000 - 166,666 - 0 - 0
        c.same("at once", x.enough(10, 1000000), 1);
        c.same("1", x.enough(10, 500000), 1);
        c.same("2", x.enough(10, 499999), 2);
        c.same("2", x.enough(10, 166666), 2);
        c.same("3", x.enough(10, 166665), 3);
        c.same("3", x.enough(10, 0), 3);
        c.same("all are above", x.enough(9, 0), 1);
        GrainShift y = heap(59, 1);
        c.same("ten", y.enough(10, 833333), 10);
        c.same("eleven would be", y.enough(10, 833332), -1);
        c.promise(30, "ENOUGH. NONE: none, no such ones (parts 0 .. 1,000,000).");
        c.same("none is above", x.enough(11, 999999), -1);
        c.same("any is enough", x.enough(11, 1000000), 1);
        c.same("bound 0", x.enough(0, 0), 1);
        c.same("bound 99", x.enough(99, 1000000), 1);
        c.same("as many cans as cells", heap(3, 1).enough(10, 0), 4);
        c.same("fewer cells than cans", heap(3, 0).enough(10, 5), -1);
        for (int[] b : new int[][] {{-1, 1000000}, {100, 1000000}, {0, -1}, {10, 1000001}, {Integer.MIN_VALUE, 0},
            {Integer.MAX_VALUE, 0}, {10, Integer.MIN_VALUE}, {10, Integer.MAX_VALUE}}) {
            c.same("enough(" + b[0] + ", " + b[1] + ")", x.enough(b[0], b[1]), -1);
        }
        c.same("no CELLS", new GrainShift().enough(10, 1000000), -1);
    }

    private static void refuse() {
        c.part(5, "REFUSE: with so much told for losing her (0 .. 99,999) and for refusing (0 .. 99,999): whether MISS by so many CANS times the first is above the second times 10 to the 6");
        GrainShift x = heap(1, 1);
        c.promise(31, "REFUSE (1, 0).");
        // MISS is 500,000: losing by 2 against refusing.
        c.same("as much is not above", x.refuse(1, 10, 2, 1), 0);
        c.same("more", x.refuse(1, 10, 3, 1), 1);
        c.same("none told for either", x.refuse(1, 10, 0, 0), 0);
        c.same("the least for losing", x.refuse(1, 10, 1, 0), 1);
        c.same("nothing for losing", x.refuse(1, 10, 0, 99999), 0);
        c.same("the most for losing", x.refuse(1, 10, 99999, 49999), 1);
        c.same("the most for losing", x.refuse(1, 10, 99999, 50000), 0);
        c.same("the most for both", x.refuse(1, 10, 99999, 99999), 0);
        c.same("sure to be found", x.refuse(2, 10, 99999, 0), 0);
        // MISS is cut: 666,666 times 99,999 is 66,665,933,334 only.
        c.same("by MISS as it is cut", heap(2, 1).refuse(1, 10, 99999, 66665), 1);
        c.same("by MISS as it is cut", heap(2, 1).refuse(1, 10, 99999, 66666), 0);
        c.part(5, "(only of a HEAP of which some CELL is above the bound; else no).");
        c.same("no CELL above", x.refuse(1, 11, 99999, 0), 0);
        c.same("one above", heap(59, 1).refuse(1, 10, 99999, 0), 1);
        c.same("all above", x.refuse(1, 9, 99999, 0), 0);
        c.promise(31, "NONE: no such ones (as miss()).");
        for (int[] b : new int[][] {{0, 10, 1, 1}, {3, 10, 1, 1}, {11, 10, 1, 1}, {1, -1, 1, 1}, {1, 100, 1, 1},
            {1, 10, -1, 1}, {1, 10, 100000, 1}, {1, 10, 1, -1}, {1, 10, 1, 100000}, {1, 11, -1, 1}, {1, 11, 1, 100000}}) {
            c.same("no such ones", x.refuse(b[0], b[1], b[2], b[3]), -1);
        }
        c.same("no CELLS", new GrainShift().refuse(1, 10, 1, 1), -1);
    }
}
