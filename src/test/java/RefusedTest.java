import java.util.LinkedHashMap;
import java.util.Map;
import java.util.function.Supplier;
import java.util.function.ToLongFunction;

/**
 * Part 7, "What is refused answers as told and changes nothing.": every call where there is nothing, no ship, a
 * lost ship, or no room for more; and what is only asked or tried changes nothing either.
 */
public final class RefusedTest {
    private static final Checks c = new Checks();
    private static final int NONE = Checks.NONE;
    private static final int HIDDEN = Checks.HIDDEN;
    private static final String[] RIGHT = {"r1", "c2", "f1", "y:1"};

    public static void main(String[] args) {
        c.part(7, "What is refused answers as told and changes nothing.");
        Map<String, Supplier<GrainShift>> without = new LinkedHashMap<>();
        without.put("nothing told", RefusedTest::nothing);
        without.put("not loaded", RefusedTest::told);
        without.put("LOST", RefusedTest::lost);
        without.put("LOST by a HEEL", RefusedTest::lostByHeel);
        for (Map.Entry<String, Supplier<GrainShift>> state : without.entrySet()) {
            noShipAfloat(state.getKey(), state.getValue());
        }
        notLoaded("nothing told", RefusedTest::nothing);
        notLoaded("not loaded", RefusedTest::told);
        nothingTold();
        nothingTried();
        full();
        wrongTexts();
        whatCannotBeLoaded();
        asked();
        c.finish();
    }

    private static GrainShift nothing() {
        GrainShift x = new GrainShift();
        Checks.put(x, "r1");
        return x;
    }

    /** All tables have something in them, but no ship is loaded. */
    private static GrainShift told() {
        GrainShift x = nothing();
        String[][] texts = {{"r2,m1,l0,w1"}, {"c2,h10"}, {"f10,t1"}, {"y:l", "y:1"}};
        for (int sort = 0; sort < 4; sort++) {
            for (String text : texts[sort]) {
                Checks.tell(x, sort, text);
            }
        }
        x.course(1, 1);
        x.port(1, 1);
        x.log(0);
        x.heap(7);
        Checks.put(x, "r1");
        return x;
    }

    private static GrainShift afloat() {
        GrainShift x = told();
        x.load(0, 0, 3L);
        x.day(5);
        x.image();
        x.roll(2);
        return x;
    }

    private static GrainShift lost() {
        GrainShift x = afloat();
        x.set(0, 1);
        x.set(1, 50);
        x.roll(1);
        c.same("LOST", x.about(3), 1);
        return x;
    }

    private static GrainShift lostByHeel() {
        GrainShift x = afloat();
        x.set(0, 1);
        x.set(1, -50);
        x.heel(1);
        c.same("LOST", x.about(3), 1);
        return x;
    }

    private static void none(String state, Supplier<GrainShift> made, String call, ToLongFunction<GrainShift> asked,
            long want) {
        Trace.none(c, state + ": " + call, made, asked, want);
    }

    private static void noShipAfloat(String state, Supplier<GrainShift> made) {
        none(state, made, "roll", x -> x.roll(1), NONE);
        none(state, made, "day", x -> x.day(1), NONE);
        for (int what = 0; what < 3; what++) {
            int k = what;
            none(state, made, "goes", x -> x.goes(5, k), HIDDEN);
            none(state, made, "runs", x -> x.runs(5, k), HIDDEN);
            none(state, made, "over", x -> x.over(1, 1, 1, k), HIDDEN);
            none(state, made, "follow", x -> x.follow(0, 1, 1, 1, k), HIDDEN);
        }
        for (int what = 0; what < 2; what++) {
            int k = what;
            none(state, made, "best", x -> x.best(k), HIDDEN);
            none(state, made, "reach", x -> x.reach(1, k), HIDDEN);
        }
        none(state, made, "least", x -> x.least(), NONE);
        none(state, made, "ballast", x -> x.ballast(1), HIDDEN);
        none(state, made, "trim", x -> x.trim(0, 1), NONE);
        none(state, made, "pour", x -> x.pour(0, 0, 1), NONE);
        none(state, made, "take", x -> x.take(0, 0, 1), NONE);
        none(state, made, "heel", x -> x.heel(1), NONE);
        none(state, made, "ripens", x -> x.ripens(0, 1), NONE);
        none(state, made, "slide", x -> x.slide(0, 1), NONE);
        none(state, made, "soonest", x -> x.soonest(1), NONE);
        none(state, made, "book", x -> x.book(1), NONE);
        none(state, made, "book", x -> x.book(-1), NONE);
        none(state, made, "better", x -> x.better(1, 1, 1), NONE);
    }

    private static void notLoaded(String state, Supplier<GrainShift> made) {
        none(state, made, "column", x -> x.column(0, 0, 0), NONE);
        none(state, made, "column", x -> x.column(0, 0, 1), NONE);
        for (int what = 0; what < 7; what++) {
            int k = what;
            none(state, made, "hold", x -> x.hold(0, k), HIDDEN);
            none(state, made, "about", x -> x.about(k), HIDDEN);
        }
        none(state, made, "image", x -> x.image(), NONE);
        none(state, made, "back", x -> x.back(), NONE);
    }

    private static void nothingTold() {
        Supplier<GrainShift> made = RefusedTest::nothing;
        none("nothing told", made, "stuff", x -> Checks.stuffOrThrown(x, 0, 0), Checks.THROWN);
        none("nothing told", made, "ship", x -> x.ship(0, -1, 0), NONE);
        none("nothing told", made, "ship", x -> x.ship(0, 0, 0), NONE);
        none("nothing told", made, "plan", x -> x.plan(0, -1, 0), NONE);
        none("nothing told", made, "plan", x -> x.plan(0, 0, 0), NONE);
        none("nothing told", made, "load", x -> x.load(0, 0, 0L) ? 1 : 0, 0);
        none("nothing told", made, "cost", x -> x.cost(0, 0), NONE);
        none("nothing told", made, "safe", x -> x.safe(0, 0, 1, 1, 1), NONE);
        none("nothing told", made, "cheapest", x -> x.cheapest(0, 1, 1, 1, 5), NONE);
        none("nothing told", made, "fitted", x -> x.fitted(0, 0, 0, 1, 1, 1, 0), NONE);
        none("nothing told", made, "agree", x -> x.agree(0, 1, 60), NONE);
        none("nothing told", made, "tilt", x -> x.tilt(0, 2, 1), NONE);
        none("nothing told", made, "miss", x -> x.miss(1, 50), NONE);
        none("nothing told", made, "enough", x -> x.enough(50, 1000000), NONE);
        none("nothing told", made, "refuse", x -> x.refuse(1, 50, 1, 0), NONE);
    }

    /** She floats, but there are no courses, no rules, no image; what is asked of her is there. */
    private static void nothingTried() {
        Supplier<GrainShift> made = () -> Checks.loaded("r2", "c2,h10", "f10,t1");
        none("none told", made, "best", x -> x.best(0), HIDDEN);
        none("none told", made, "best", x -> x.best(1), HIDDEN);
        none("none told", made, "follow", x -> x.follow(0, 1, 1, 1, 0), HIDDEN);
        none("none told", made, "better", x -> x.better(1, 1, 1), NONE);
        none("none told", made, "back", x -> x.back(), NONE);
        none("none told", made, "reach", x -> x.reach(1, 0), 0);
        none("none told", made, "reach", x -> x.reach(1, 1), NONE);
    }

    private static GrainShift full(String tape) {
        GrainShift x = new GrainShift();
        int[] most = {6, 3, 6, 4};
        for (int sort = 0; sort < 4; sort++) {
            for (int k = 0; k < most[sort]; k++) {
                Checks.tell(x, sort, RIGHT[sort]);
            }
        }
        for (int k = 0; k < 6; k++) {
            x.course(k, 1 + k);
            x.port(1 + k, k);
        }
        for (int k = 0; k < 20; k++) {
            x.log(k % 3);
        }
        for (int k = 0; k < 60; k++) {
            x.heap(k);
        }
        x.load(0, 0, 1L);
        Checks.put(x, tape + " ".repeat(160 - tape.length()));
        return x;
    }

    private static void full() {
        for (int sort = 0; sort < 4; sort++) {
            String tape = RIGHT[sort];
            int k = sort;
            none("full", () -> full(tape), "fault(" + k + ")", x -> x.fault(k), NONE);
            none("full", () -> full(tape), "text(" + k + ")", x -> x.text(k), NONE);
        }
        Supplier<GrainShift> made = () -> full("r1");
        none("full", made, "course", x -> x.course(1, 1), NONE);
        none("full", made, "port", x -> x.port(1, 1), NONE);
        none("full", made, "log", x -> x.log(0), NONE);
        none("full", made, "heap", x -> x.heap(0), NONE);
        none("full", made, "feed", x -> x.feed(0, 0, 0, 0, 32), NONE);
        none("full", made, "feed of twenty", x -> Checks.feed(x, "r2                  "), NONE);
        none("full", made, "feed of none", x -> x.feed(0, 0, 0, 0, 0), 160);
        none("full", made, "end", x -> x.end(161) ? 1 : 0, 0);
        Supplier<GrainShift> almost = () -> {
            GrainShift x = full("r1");
            x.end(159);
            return x;
        };
        none("159", almost, "feed of two", x -> x.feed('r', '1', 0, 0, 0), NONE);
    }

    private static void wrongTexts() {
        String[] wrong = {"", " ", "r21", "r1,r1", "c2;", "c2;c2;c2;c2;c2", "f481", "y:", "y:1>0", "?"};
        for (String text : wrong) {
            Supplier<GrainShift> made = () -> {
                GrainShift x = afloat();
                Checks.put(x, text);
                return x;
            };
            for (int sort = -1; sort <= 4; sort++) {
                int k = sort;
                none("'" + text + "'", made, "text(" + k + ")", x -> x.text(k), NONE);
            }
        }
    }

    private static void whatCannotBeLoaded() {
        Supplier<GrainShift> made = () -> {
            GrainShift x = afloat();
            for (String plan : new String[] {"f21", "g1", "f1;f1", "f20"}) {
                Checks.tell(x, 2, plan);
            }
            return x;
        };
        for (int plan = 1; plan <= 3; plan++) {
            int k = plan;
            none("plan " + k, made, "load", x -> x.load(0, k, 9L) ? 1 : 0, 0);
            none("plan " + k, made, "safe", x -> x.safe(0, k, 1, 1, 1), NONE);
            none("plan " + k, made, "fitted", x -> x.fitted(0, k, 0, 1, 1, 1, 0), NONE);
        }
        none("plan 3", made, "cost", x -> x.cost(0, 3), NONE);
        GrainShift x = made.get();
        c.yes("full to the top", x.load(0, 4, 9L));
    }

    /** Looks, trials and voyages of plans, on a ship with all tables told. */
    private static void asked() {
        c.part(3, "TRIED, from her as she is, apart from it:");
        Map<String, ToLongFunction<GrainShift>> asks = new LinkedHashMap<>();
        asks.put("fault", x -> x.fault(0));
        asks.put("stuff", x -> x.stuff(1, 2));
        asks.put("ship", x -> x.ship(0, 1, 1));
        asks.put("plan", x -> x.plan(1, 0, 3));
        asks.put("column", x -> x.column(0, 1, 1));
        asks.put("hold", x -> x.hold(0, 6));
        asks.put("about", x -> x.about(0));
        asks.put("goes", x -> x.goes(40, 0));
        asks.put("least", x -> x.least());
        asks.put("runs", x -> x.runs(20, 1));
        asks.put("ballast", x -> x.ballast(12));
        asks.put("best", x -> x.best(1));
        asks.put("cost", x -> x.cost(0, 1));
        asks.put("safe", x -> x.safe(0, 1, 9, 2, 5));
        asks.put("cheapest", x -> x.cheapest(0, 9, 2, 5, 1));
        asks.put("fitted", x -> x.fitted(0, 1, 0, 9, 2, 5, 0));
        asks.put("agree", x -> x.agree(0, 9, 5));
        asks.put("miss", x -> x.miss(3, 50));
        asks.put("enough", x -> x.enough(50, 1000));
        asks.put("refuse", x -> x.refuse(2, 50, 99, 1));
        asks.put("tilt", x -> x.tilt(1, 12, 39));
        asks.put("ripens", x -> x.ripens(0, 7));
        asks.put("slide", x -> x.slide(0, 30));
        asks.put("reach", x -> x.reach(20, 1));
        asks.put("over", x -> x.over(20, 3, 20, 1));
        asks.put("soonest", x -> x.soonest(30));
        asks.put("book", x -> x.book(9));
        asks.put("book(-1)", x -> x.book(-1));
        asks.put("follow", x -> x.follow(0, 20, 9, 5, 2));
        asks.put("better", x -> x.better(20, 9, 5));
        asks.put("rules", x -> x.rules());
        asks.put("count", x -> x.count(5));
        for (Map.Entry<String, ToLongFunction<GrainShift>> ask : asks.entrySet()) {
            Trace.none(c, "asked: " + ask.getKey(), BoundsTest::well, ask.getValue());
            Trace.none(c, "asked: " + ask.getKey(), RefusedTest::lively, ask.getValue());
        }
    }

    /** As well(), but leaning, so that trials may lose her. */
    private static GrainShift lively() {
        GrainShift x = BoundsTest.well();
        x.back();
        x.set(0, 40);
        x.set(1, 3);
        x.set(2, 25);
        x.roll(5);
        return x;
    }
}
