import java.util.Arrays;

/**
 * Every argument of every call that has bounds, on both sides: the last value that is taken and the first that
 * is not. What is refused leaves the object with the trace of a twin that was not asked.
 */
public final class BoundsTest {
    private static final Checks c = new Checks();
    private static final int NONE = Checks.NONE;
    private static final int HIDDEN = Checks.HIDDEN;

    private interface Call {
        long on(GrainShift x, int[] with);
    }

    public static void main(String[] args) {
        c.part(7, "The constants: `NONE = -1`: None; refused.");
        c.same("NONE", NONE, -1);
        c.part(7, "`HIDDEN = -1000000`: Not told.");
        c.same("HIDDEN", HIDDEN, -1000000);
        c.part(7, "What is refused answers as told and changes nothing.");
        texts();
        her();
        tried();
        plans();
        heap();
        hands();
        voyages();
        c.finish();
    }

    /** Two ships, three plans, all tables with something in them, an image, a lively sea behind her; LEAN stays 0. */
    static GrainShift well() {
        GrainShift x = new GrainShift();
        Checks.tell(x, 0, "r2,s3,m1,l60,w3");
        Checks.tell(x, 0, "r20,m1,w9");
        Checks.tell(x, 1, "c4,h10;c3,h8");
        Checks.tell(x, 1, "c2,h10");
        Checks.tell(x, 2, "f20,t1;g1,f9");
        Checks.tell(x, 2, "f8,b5,k1;f6");
        Checks.tell(x, 2, "f10,t1");
        Checks.tell(x, 3, "y:l>0?0-b;y:d+1");
        Checks.tell(x, 3, "y:3");
        x.course(3, 2);
        x.course(9, 1);
        x.port(1, 5);
        x.port(3, 9);
        x.log(0);
        x.log(1);
        for (int k = 1; k <= 12; k++) {
            x.heap(8 * k);
        }
        x.set(0, 9999);
        x.set(1, 12);
        x.set(2, 60);
        x.load(0, 0, 5L);
        x.roll(3);
        x.image();
        x.roll(6);
        x.day(2);
        Checks.put(x, "r1");
        return x;
    }

    /** Ranges are {low, high}; the low ends together are arguments that are taken. */
    private static void bounds(String name, long refusal, Call call, int[]... ranges) {
        int[] low = new int[ranges.length];
        for (int k = 0; k < ranges.length; k++) {
            low[k] = ranges[k][0];
        }
        for (int k = 0; k < ranges.length; k++) {
            for (int value : ranges[k]) {
                int[] with = low.clone();
                with[k] = value;
                c.differ(name + Arrays.toString(with), call.on(well(), with), refusal);
            }
            for (int value : new int[] {ranges[k][0] - 1, ranges[k][1] + 1, Integer.MIN_VALUE, Integer.MAX_VALUE}) {
                int[] with = low.clone();
                with[k] = value;
                Trace.none(c, name + Arrays.toString(with), BoundsTest::well, x -> call.on(x, with), refusal);
            }
        }
    }

    private static int[] from(int low, int high) {
        return new int[] {low, high};
    }

    private static long asked(boolean answer) {
        return answer ? 1 : 0;
    }

    private static void texts() {
        bounds("end", 0, (x, a) -> asked(x.end(a[0])), from(0, 2));
        bounds("fault", -2, (x, a) -> x.fault(a[0]), from(0, 3));
        bounds("stuff", Checks.THROWN, (x, a) -> Checks.stuffOrThrown(x, a[0], a[1]), from(0, 1), from(0, 4));
        bounds("ship", NONE, (x, a) -> x.ship(a[0], a[1], a[2]), from(0, 1), from(-1, 1), from(0, 0));
        bounds("ship of hold 1", NONE, (x, a) -> x.ship(0, 1, a[0]), from(0, 1));
        bounds("plan", NONE, (x, a) -> x.plan(a[0], a[1], a[2]), from(0, 2), from(-1, 1), from(0, 0));
        bounds("plan of laying 1", NONE, (x, a) -> x.plan(0, 1, a[0]), from(0, 4));
        bounds("count", HIDDEN, (x, a) -> x.count(a[0]), from(0, 9));
    }

    private static void her() {
        bounds("set STIFF", 0, (x, a) -> asked(x.set(0, a[0])), from(1, 9999));
        bounds("set BALLAST", 0, (x, a) -> asked(x.set(1, a[0])), from(-999, 999));
        bounds("set LIMIT", 0, (x, a) -> asked(x.set(2, a[0])), from(1, 60));
        bounds("set", 0, (x, a) -> asked(x.set(a[0], 1)), from(0, 2));
        bounds("load", 0, (x, a) -> asked(x.load(a[0], a[0] == 1 ? 2 : a[1], 0L)), from(0, 1), from(0, 1));
        bounds("load of a plan", 0, (x, a) -> asked(x.load(1, a[0], 0L)), from(2, 2));
        bounds("roll", NONE, (x, a) -> x.roll(a[0]), from(0, 40));
        bounds("day", NONE, (x, a) -> x.day(a[0]), from(0, 30));
        bounds("column", NONE, (x, a) -> x.column(a[0], a[1], a[2]), from(0, 1), from(0, 3), from(0, 1));
        bounds("column of hold 1", NONE, (x, a) -> x.column(1, a[0], 0), from(0, 2));
        bounds("hold", HIDDEN, (x, a) -> x.hold(a[0], a[1]), from(0, 1), from(0, 6));
        bounds("about", HIDDEN, (x, a) -> x.about(a[0]), from(0, 5));
    }

    private static void tried() {
        bounds("goes", HIDDEN, (x, a) -> x.goes(a[0], a[1]), from(0, 40), from(0, 2));
        bounds("runs", HIDDEN, (x, a) -> x.runs(a[0], a[1]), from(0, 40), from(0, 2));
        bounds("ballast", HIDDEN, (x, a) -> x.ballast(a[0]), from(0, 40));
        bounds("course", NONE, (x, a) -> x.course(a[0], a[1]), from(0, 30), from(1, 9));
        bounds("best", HIDDEN, (x, a) -> x.best(a[0]), from(0, 1));
    }

    private static void plans() {
        bounds("cost", NONE, (x, a) -> x.cost(a[0], a[0] == 1 ? 2 : a[1]), from(0, 1), from(0, 1));
        bounds("safe", NONE, (x, a) -> x.safe(a[0], a[0] == 1 ? 2 : a[1], a[2], a[3], a[4]),
                from(0, 1), from(0, 1), from(0, 30), from(1, 9), from(1, 5));
        bounds("cheapest", NONE, (x, a) -> x.cheapest(a[0], a[1], a[2], a[3], a[4]),
                from(0, 1), from(0, 30), from(1, 9), from(1, 5), from(0, 5));
        bounds("fitted", NONE, (x, a) -> x.fitted(a[0], a[0] == 1 ? 2 : a[1], a[2], a[3], a[4], a[5], a[6]),
                from(0, 1), from(0, 1), from(0, 1), from(0, 30), from(1, 9), from(1, 5), from(0, 1));
        bounds("log", NONE, (x, a) -> x.log(a[0]), from(-60, 60));
        bounds("agree", NONE, (x, a) -> x.agree(a[0], a[1], a[2]), from(0, 1), from(0, 40), from(0, 60));
    }

    private static void heap() {
        bounds("heap", NONE, (x, a) -> x.heap(a[0]), from(0, 99));
        bounds("miss", NONE, (x, a) -> x.miss(a[0], a[1]), from(1, 10), from(0, 99));
        bounds("enough", NONE, (x, a) -> x.enough(a[0], a[0] == 99 ? 1000000 : a[1]), from(0, 99), from(0, 1000000));
        bounds("refuse", NONE, (x, a) -> x.refuse(a[0], a[1], a[2], a[3]),
                from(1, 10), from(0, 99), from(0, 99999), from(0, 99999));
    }

    private static void hands() {
        bounds("trim", NONE, (x, a) -> x.trim(a[0], a[1]), from(0, 1), from(1, 99));
        bounds("pour", NONE, (x, a) -> x.pour(a[0], a[1], a[2]), from(0, 1), from(0, 3), from(1, 99));
        bounds("take", NONE, (x, a) -> x.take(a[0], a[1], a[2]), from(0, 1), from(0, 3), from(1, 99));
        bounds("pour onto hold 1", NONE, (x, a) -> x.pour(1, a[0], 1), from(0, 2));
        bounds("take from hold 1", NONE, (x, a) -> x.take(1, a[0], 1), from(0, 2));
        bounds("heel", NONE, (x, a) -> x.heel(a[0]), from(-40, 40));
        // Of 40 UNITS none can go, which is NONE as well.
        bounds("tilt", NONE, (x, a) -> x.tilt(a[0], a[1], a[2]), from(0, 1), from(2, 12), from(1, 39));
        bounds("ripens", NONE, (x, a) -> x.ripens(a[0], a[1]), from(0, 1), from(1, 40));
        bounds("slide", NONE, (x, a) -> x.slide(a[0], a[1]), from(0, 1), from(0, 40));
    }

    private static void voyages() {
        bounds("port", NONE, (x, a) -> x.port(a[0], a[1]), from(1, 9), from(0, 9999));
        bounds("reach", HIDDEN, (x, a) -> x.reach(a[0], a[1]), from(0, 30), from(0, 1));
        bounds("over", HIDDEN, (x, a) -> x.over(a[0], a[1], a[2], a[3]),
                from(0, 30), from(1, 9), from(1, 20), from(0, 2));
        bounds("soonest", NONE, BoundsTest::soonest, from(0, 30));
        bounds("book", NONE, (x, a) -> x.book(a[0]), from(-1, 99));
        bounds("follow", HIDDEN, (x, a) -> x.follow(a[0], a[1], a[2], a[3], a[4]),
                from(0, 1), from(0, 30), from(1, 9), from(1, 5), from(0, 2));
        bounds("better", NONE, (x, a) -> x.better(a[0], a[1], a[2]), from(0, 30), from(1, 9), from(1, 5));
    }

    /** For a SEA that is there she is made to be lost at once, so that a day is told. */
    private static long soonest(GrainShift x, int[] with) {
        if (with[0] == 0 || with[0] == 30) {
            x.set(0, 1);
        }
        return x.soonest(with[0]);
    }
}
