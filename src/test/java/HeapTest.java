/** Promises 28 to 31: cells, cans, refusing. */
public final class HeapTest {
    private static final Checks c = new Checks();

    public static void main(String[] args) {
        cells();
        miss();
        enough();
        refuse();
        c.finish();
    }

    private static GrainShift heap(int dry, int wet) {
        GrainShift x = new GrainShift();
        for (int k = 0; k < dry; k++) {
            x.heap(10);
        }
        for (int k = 0; k < wet; k++) {
            x.heap(11);
        }
        return x;
    }

    private static void cells() {
        GrainShift x = new GrainShift();
        c.same("below", x.heap(-1), -1);
        c.same("above", x.heap(100), -1);
        for (int k = 1; k <= 60; k++) {
            c.same("cell", x.heap(k % 2 == 0 ? 0 : 99), k);
        }
        c.same("60 are there", x.heap(5), -1);
        c.same("count", x.count(9), 60);
    }

    private static void miss() {
        c.same("none", new GrainShift().miss(1, 50), -1);
        GrainShift x = heap(59, 1);
        c.same("59 of 60", x.miss(1, 10), 983333);
        c.same("50 of 60", x.miss(10, 10), 833333);
        c.same("at the bound", x.miss(10, 11), 1000000);
        c.same("all above", x.miss(1, 9), 0);
        GrainShift y = heap(30, 30);
        // C(30, 10) = 30,045,015 of C(60, 10) = 75,394,027,566.
        c.same("ten of 60", y.miss(10, 10), 398);
        c.same("two of 60", y.miss(2, 10), 245762);
        GrainShift z = heap(4, 1);
        c.same("all dry ones", z.miss(4, 10), 200000);
        c.same("more than dry ones", z.miss(5, 10), 0);
        c.same("more than cells", z.miss(6, 10), -1);
        GrainShift w = heap(12, 0);
        c.same("ten", w.miss(10, 10), 1000000);
        c.same("ten are the most", w.miss(11, 10), -1);
        for (int[] b : new int[][] {{0, 10}, {-1, 10}, {1, -1}, {1, 100}, {Integer.MIN_VALUE, 5}}) {
            c.same("no such ones", w.miss(b[0], b[1]), -1);
        }
    }

    private static void enough() {
        GrainShift x = heap(2, 2);
        // 500,000 - 166,666 - 0 - 0
        c.same("at once", x.enough(10, 1000000), 1);
        c.same("1", x.enough(10, 500000), 1);
        c.same("2", x.enough(10, 499999), 2);
        c.same("2", x.enough(10, 166666), 2);
        c.same("3", x.enough(10, 166665), 3);
        c.same("3", x.enough(10, 0), 3);
        c.same("none above", x.enough(11, 999999), -1);
        c.same("all above", x.enough(9, 0), 1);
        for (int[] b : new int[][] {{-1, 0}, {100, 0}, {10, -1}, {10, 1000001}}) {
            c.same("no such ones", x.enough(b[0], b[1]), -1);
        }
        c.same("no cells", new GrainShift().enough(10, 1000000), -1);
        GrainShift y = heap(59, 1);
        c.same("ten", y.enough(10, 833333), 10);
        c.same("none of ten", y.enough(10, 833332), -1);
        c.same("fewer cells than cans", heap(3, 0).enough(10, 5), -1);
    }

    private static void refuse() {
        GrainShift x = heap(1, 1);
        // MISS is 500,000: losing by 2 against refusing.
        c.same("as much", x.refuse(1, 10, 2, 1), 0);
        c.same("more", x.refuse(1, 10, 3, 1), 1);
        c.same("none told for it", x.refuse(1, 10, 0, 0), 0);
        c.same("the most", x.refuse(1, 10, 99999, 49999), 1);
        c.same("the most", x.refuse(1, 10, 99999, 50000), 0);
        c.same("sure to be found", x.refuse(2, 10, 99999, 0), 0);
        c.same("no cell above", x.refuse(1, 11, 99999, 0), 0);
        c.same("all above", x.refuse(1, 9, 99999, 0), 0);
        for (int[] b : new int[][] {{0, 10, 1, 1}, {3, 10, 1, 1}, {11, 10, 1, 1}, {1, -1, 1, 1}, {1, 100, 1, 1},
            {1, 10, -1, 1}, {1, 10, 100000, 1}, {1, 10, 1, -1}, {1, 10, 1, 100000}}) {
            c.same("no such ones", x.refuse(b[0], b[1], b[2], b[3]), -1);
        }
    }
}
